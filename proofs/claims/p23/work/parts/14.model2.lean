set_option maxRecDepth 20000 in
theorem ggX4_figure_X4_in : GoodIn wsX4_figure wsX4_in := goodIn_r _ [8] rfl (by decide +kernel)
set_option maxRecDepth 20000 in
theorem gX4_figure_X4_in : GoodIn wsX4_figure (va_wsS RX4 74 yX4_in wsX4_in) := goodIn_app (goodIn_of _ (by decide +kernel)) ggX4_figure_X4_in
theorem dX4_figure_0 : decode cX4_figure 0 = .ok (.aload_n 0, 1) := by decide +kernel
theorem dX4_figure_1 : decode cX4_figure 1 = .ok (.getfield 81, 3) := by decide +kernel
theorem dX4_figure_4 : decode cX4_figure 4 = .ok (.bipush (-9), 2) := by decide +kernel
theorem dX4_figure_6 : decode cX4_figure 6 = .ok (.if_icmp .ne 29, 3) := by decide +kernel
theorem dX4_figure_9 : decode cX4_figure 9 = .ok (.aload_n 0, 1) := by decide +kernel
theorem dX4_figure_10 : decode cX4_figure 10 = .ok (.getfield 84, 3) := by decide +kernel
theorem dX4_figure_13 : decode cX4_figure 13 = .ok (.aload_n 0, 1) := by decide +kernel
theorem dX4_figure_14 : decode cX4_figure 14 = .ok (.getfield 78, 3) := by decide +kernel
theorem dX4_figure_17 : decode cX4_figure 17 = .ok (.if_icmp .ge 18, 3) := by decide +kernel
theorem dX4_figure_20 : decode cX4_figure 20 = .ok (.aload_n 0, 1) := by decide +kernel
theorem dX4_figure_21 : decode cX4_figure 21 = .ok (.getfield 34, 3) := by decide +kernel
theorem dX4_figure_24 : decode cX4_figure 24 = .ok (.aload_n 0, 1) := by decide +kernel
theorem dX4_figure_25 : decode cX4_figure 25 = .ok (.getfield 84, 3) := by decide +kernel
theorem dX4_figure_28 : decode cX4_figure 28 = .ok (.iaload, 1) := by decide +kernel
theorem dX4_figure_29 : decode cX4_figure 29 = .ok (.bipush 48, 2) := by decide +kernel
theorem dX4_figure_31 : decode cX4_figure 31 = .ok (.isub, 1) := by decide +kernel
theorem dX4_figure_32 : decode cX4_figure 32 = .ok (.goto 5, 3) := by decide +kernel
theorem dX4_figure_35 : decode cX4_figure 35 = .ok (.bipush (-9), 2) := by decide +kernel
theorem dX4_figure_37 : decode cX4_figure 37 = .ok (.istore_n 3, 1) := by decide +kernel
theorem dX4_figure_38 : decode cX4_figure 38 = .ok (.iload_n 3, 1) := by decide +kernel
theorem dX4_figure_39 : decode cX4_figure 39 = .ok (.i2l, 1) := by decide +kernel
theorem dX4_figure_40 : decode cX4_figure 40 = .ok (.lconst 0, 1) := by decide +kernel
theorem dX4_figure_41 : decode cX4_figure 41 = .ok (.iload_n 1, 1) := by decide +kernel
theorem dX4_figure_42 : decode cX4_figure 42 = .ok (.i2l, 1) := by decide +kernel
theorem dX4_figure_43 : decode cX4_figure 43 = .ok (.invokestatic 74, 3) := by decide +kernel
theorem dX4_figure_46 : decode cX4_figure 46 = .ok (.ifCond .eq 8, 3) := by decide +kernel
theorem dX4_figure_49 : decode cX4_figure 49 = .ok (.iload_n 3, 1) := by decide +kernel
theorem dX4_figure_50 : decode cX4_figure 50 = .ok (.iload_n 2, 1) := by decide +kernel
theorem dX4_figure_51 : decode cX4_figure 51 = .ok (.if_icmp .ne 29, 3) := by decide +kernel
theorem dX4_figure_54 : decode cX4_figure 54 = .ok (.aload_n 0, 1) := by decide +kernel
theorem dX4_figure_55 : decode cX4_figure 55 = .ok (.aload_n 0, 1) := by decide +kernel
theorem dX4_figure_56 : decode cX4_figure 56 = .ok (.getfield 81, 3) := by decide +kernel
theorem dX4_figure_59 : decode cX4_figure 59 = .ok (.bipush (-9), 2) := by decide +kernel
theorem dX4_figure_61 : decode cX4_figure 61 = .ok (.if_icmp .ne 10, 3) := by decide +kernel
theorem dX4_figure_64 : decode cX4_figure 64 = .ok (.aload_n 0, 1) := by decide +kernel
theorem dX4_figure_65 : decode cX4_figure 65 = .ok (.getfield 84, 3) := by decide +kernel
theorem dX4_figure_68 : decode cX4_figure 68 = .ok (.goto 7, 3) := by decide +kernel
theorem dX4_figure_71 : decode cX4_figure 71 = .ok (.aload_n 0, 1) := by decide +kernel
theorem dX4_figure_72 : decode cX4_figure 72 = .ok (.getfield 81, 3) := by decide +kernel
theorem dX4_figure_75 : decode cX4_figure 75 = .ok (.putfield 81, 3) := by decide +kernel
theorem dX4_figure_78 : decode cX4_figure 78 = .ok (.iconst 0, 1) := by decide +kernel
theorem dX4_figure_79 : decode cX4_figure 79 = .ok (.ireturn, 1) := by decide +kernel
theorem dX4_figure_80 : decode cX4_figure 80 = .ok (.aload_n 0, 1) := by decide +kernel
theorem dX4_figure_81 : decode cX4_figure 81 = .ok (.dup, 1) := by decide +kernel
theorem dX4_figure_82 : decode cX4_figure 82 = .ok (.getfield 84, 3) := by decide +kernel
theorem dX4_figure_85 : decode cX4_figure 85 = .ok (.iconst 1, 1) := by decide +kernel
theorem dX4_figure_86 : decode cX4_figure 86 = .ok (.iadd, 1) := by decide +kernel
theorem dX4_figure_87 : decode cX4_figure 87 = .ok (.putfield 84, 3) := by decide +kernel
theorem dX4_figure_90 : decode cX4_figure 90 = .ok (.iload_n 3, 1) := by decide +kernel
theorem dX4_figure_91 : decode cX4_figure 91 = .ok (.ireturn, 1) := by decide +kernel
set_option maxRecDepth 20000 in
theorem ggX4_readText_X4_figure : GoodIn wsX4_readText wsX4_figure := goodIn_r _ [15, 2, 1, 5, 6, 16, 17, 14, 18, 19, 20, 21, 22, 23, 24, 25, 26, 27, 28, 29, 30, 31, 32, 33, 34, 35, 36, 37, 38, 39, 40, 41, 42, 43, 44, 45, 46, 47, 48] rfl (by decide +kernel)
set_option maxRecDepth 20000 in
theorem gX4_readText_X4_figure : GoodIn wsX4_readText (wsV RX4 93 RX4 yX4_figure wsX4_figure) := goodIn_app (goodIn_r _ [11, 12, 13, 14] rfl (by decide +kernel)) ggX4_readText_X4_figure
theorem dX4_readText_0 : decode cX4_readText 0 = .ok (.aload_n 0, 1) := by decide +kernel
theorem dX4_readText_1 : decode cX4_readText 1 = .ok (.iconst 0, 1) := by decide +kernel
theorem dX4_readText_2 : decode cX4_readText 2 = .ok (.putfield 84, 3) := by decide +kernel
theorem dX4_readText_5 : decode cX4_readText 5 = .ok (.aload_n 0, 1) := by decide +kernel
theorem dX4_readText_6 : decode cX4_readText 6 = .ok (.bipush (-9), 2) := by decide +kernel
theorem dX4_readText_8 : decode cX4_readText 8 = .ok (.putfield 81, 3) := by decide +kernel
theorem dX4_readText_11 : decode cX4_readText 11 = .ok (.aload_n 0, 1) := by decide +kernel
theorem dX4_readText_12 : decode cX4_readText 12 = .ok (.iconst 0, 1) := by decide +kernel
theorem dX4_readText_13 : decode cX4_readText 13 = .ok (.putfield 87, 3) := by decide +kernel
theorem dX4_readText_16 : decode cX4_readText 16 = .ok (.aload_n 0, 1) := by decide +kernel
theorem dX4_readText_17 : decode cX4_readText 17 = .ok (.iconst 0, 1) := by decide +kernel
theorem dX4_readText_18 : decode cX4_readText 18 = .ok (.putfield 90, 3) := by decide +kernel
theorem dX4_readText_21 : decode cX4_readText 21 = .ok (.aload_n 0, 1) := by decide +kernel
theorem dX4_readText_22 : decode cX4_readText 22 = .ok (.getfield 78, 3) := by decide +kernel
theorem dX4_readText_25 : decode cX4_readText 25 = .ok (.ifCond .eq 14, 3) := by decide +kernel
theorem dX4_readText_28 : decode cX4_readText 28 = .ok (.aload_n 0, 1) := by decide +kernel
theorem dX4_readText_29 : decode cX4_readText 29 = .ok (.getfield 34, 3) := by decide +kernel
theorem dX4_readText_32 : decode cX4_readText 32 = .ok (.iconst 0, 1) := by decide +kernel
theorem dX4_readText_33 : decode cX4_readText 33 = .ok (.iaload, 1) := by decide +kernel
theorem dX4_readText_34 : decode cX4_readText 34 = .ok (.bipush 76, 2) := by decide +kernel
theorem dX4_readText_36 : decode cX4_readText 36 = .ok (.if_icmp .eq 5, 3) := by decide +kernel
theorem dX4_readText_39 : decode cX4_readText 39 = .ok (.iconst 0, 1) := by decide +kernel
theorem dX4_readText_40 : decode cX4_readText 40 = .ok (.ireturn, 1) := by decide +kernel
theorem dX4_readText_41 : decode cX4_readText 41 = .ok (.aload_n 0, 1) := by decide +kernel
theorem dX4_readText_42 : decode cX4_readText 42 = .ok (.iconst 1, 1) := by decide +kernel
theorem dX4_readText_43 : decode cX4_readText 43 = .ok (.putfield 84, 3) := by decide +kernel
theorem dX4_readText_46 : decode cX4_readText 46 = .ok (.aload_n 0, 1) := by decide +kernel
theorem dX4_readText_47 : decode cX4_readText 47 = .ok (.getfield 81, 3) := by decide +kernel
theorem dX4_readText_50 : decode cX4_readText 50 = .ok (.bipush (-9), 2) := by decide +kernel
theorem dX4_readText_52 : decode cX4_readText 52 = .ok (.if_icmp .ne 268, 3) := by decide +kernel
theorem dX4_readText_55 : decode cX4_readText 55 = .ok (.aload_n 0, 1) := by decide +kernel
theorem dX4_readText_56 : decode cX4_readText 56 = .ok (.getfield 84, 3) := by decide +kernel
theorem dX4_readText_59 : decode cX4_readText 59 = .ok (.aload_n 0, 1) := by decide +kernel
theorem dX4_readText_60 : decode cX4_readText 60 = .ok (.getfield 78, 3) := by decide +kernel
theorem dX4_readText_63 : decode cX4_readText 63 = .ok (.if_icmp .ge 257, 3) := by decide +kernel
theorem dX4_readText_66 : decode cX4_readText 66 = .ok (.aload_n 0, 1) := by decide +kernel
theorem dX4_readText_67 : decode cX4_readText 67 = .ok (.getfield 34, 3) := by decide +kernel
theorem dX4_readText_70 : decode cX4_readText 70 = .ok (.aload_n 0, 1) := by decide +kernel
theorem dX4_readText_71 : decode cX4_readText 71 = .ok (.getfield 84, 3) := by decide +kernel
theorem dX4_readText_74 : decode cX4_readText 74 = .ok (.iaload, 1) := by decide +kernel
theorem dX4_readText_75 : decode cX4_readText 75 = .ok (.bipush 80, 2) := by decide +kernel
theorem dX4_readText_77 : decode cX4_readText 77 = .ok (.if_icmp .ne 84, 3) := by decide +kernel
theorem dX4_readText_80 : decode cX4_readText 80 = .ok (.aload_n 0, 1) := by decide +kernel
theorem dX4_readText_81 : decode cX4_readText 81 = .ok (.getfield 87, 3) := by decide +kernel
theorem dX4_readText_84 : decode cX4_readText 84 = .ok (.iconst 5, 1) := by decide +kernel
theorem dX4_readText_85 : decode cX4_readText 85 = .ok (.if_icmp .ge 76, 3) := by decide +kernel
theorem dX4_readText_88 : decode cX4_readText 88 = .ok (.aload_n 0, 1) := by decide +kernel
theorem dX4_readText_89 : decode cX4_readText 89 = .ok (.dup, 1) := by decide +kernel
theorem dX4_readText_90 : decode cX4_readText 90 = .ok (.getfield 84, 3) := by decide +kernel
theorem dX4_readText_93 : decode cX4_readText 93 = .ok (.iconst 1, 1) := by decide +kernel
theorem dX4_readText_94 : decode cX4_readText 94 = .ok (.iadd, 1) := by decide +kernel
theorem dX4_readText_95 : decode cX4_readText 95 = .ok (.putfield 84, 3) := by decide +kernel
theorem dX4_readText_98 : decode cX4_readText 98 = .ok (.aload_n 0, 1) := by decide +kernel
theorem dX4_readText_99 : decode cX4_readText 99 = .ok (.getfield 22, 3) := by decide +kernel
theorem dX4_readText_102 : decode cX4_readText 102 = .ok (.aload_n 0, 1) := by decide +kernel
theorem dX4_readText_103 : decode cX4_readText 103 = .ok (.getfield 87, 3) := by decide +kernel
theorem dX4_readText_106 : decode cX4_readText 106 = .ok (.aload_n 0, 1) := by decide +kernel
theorem dX4_readText_107 : decode cX4_readText 107 = .ok (.bipush 9, 2) := by decide +kernel
theorem dX4_readText_109 : decode cX4_readText 109 = .ok (.bipush (-9), 2) := by decide +kernel
theorem dX4_readText_111 : decode cX4_readText 111 = .ok (.invokevirtual 93, 3) := by decide +kernel
theorem dX4_readText_114 : decode cX4_readText 114 = .ok (.iastore, 1) := by decide +kernel
theorem dX4_readText_115 : decode cX4_readText 115 = .ok (.aload_n 0, 1) := by decide +kernel
theorem dX4_readText_116 : decode cX4_readText 116 = .ok (.getfield 25, 3) := by decide +kernel
theorem dX4_readText_119 : decode cX4_readText 119 = .ok (.aload_n 0, 1) := by decide +kernel
theorem dX4_readText_120 : decode cX4_readText 120 = .ok (.getfield 87, 3) := by decide +kernel
theorem dX4_readText_123 : decode cX4_readText 123 = .ok (.aload_n 0, 1) := by decide +kernel
theorem dX4_readText_124 : decode cX4_readText 124 = .ok (.bipush 9, 2) := by decide +kernel
theorem dX4_readText_126 : decode cX4_readText 126 = .ok (.bipush (-9), 2) := by decide +kernel
theorem dX4_readText_128 : decode cX4_readText 128 = .ok (.invokevirtual 93, 3) := by decide +kernel
theorem dX4_readText_131 : decode cX4_readText 131 = .ok (.iastore, 1) := by decide +kernel
theorem dX4_readText_132 : decode cX4_readText 132 = .ok (.aload_n 0, 1) := by decide +kernel
theorem dX4_readText_133 : decode cX4_readText 133 = .ok (.getfield 28, 3) := by decide +kernel
theorem dX4_readText_136 : decode cX4_readText 136 = .ok (.aload_n 0, 1) := by decide +kernel
theorem dX4_readText_137 : decode cX4_readText 137 = .ok (.getfield 87, 3) := by decide +kernel
theorem dX4_readText_140 : decode cX4_readText 140 = .ok (.aload_n 0, 1) := by decide +kernel
theorem dX4_readText_141 : decode cX4_readText 141 = .ok (.iconst 3, 1) := by decide +kernel
theorem dX4_readText_142 : decode cX4_readText 142 = .ok (.bipush (-9), 2) := by decide +kernel
theorem dX4_readText_144 : decode cX4_readText 144 = .ok (.invokevirtual 93, 3) := by decide +kernel
theorem dX4_readText_147 : decode cX4_readText 147 = .ok (.iastore, 1) := by decide +kernel
theorem dX4_readText_148 : decode cX4_readText 148 = .ok (.aload_n 0, 1) := by decide +kernel
theorem dX4_readText_149 : decode cX4_readText 149 = .ok (.dup, 1) := by decide +kernel
theorem dX4_readText_150 : decode cX4_readText 150 = .ok (.getfield 87, 3) := by decide +kernel
theorem dX4_readText_153 : decode cX4_readText 153 = .ok (.iconst 1, 1) := by decide +kernel
theorem dX4_readText_154 : decode cX4_readText 154 = .ok (.iadd, 1) := by decide +kernel
theorem dX4_readText_155 : decode cX4_readText 155 = .ok (.putfield 87, 3) := by decide +kernel
theorem dX4_readText_158 : decode cX4_readText 158 = .ok (.goto (-112), 3) := by decide +kernel
theorem dX4_readText_161 : decode cX4_readText 161 = .ok (.aload_n 0, 1) := by decide +kernel
theorem dX4_readText_162 : decode cX4_readText 162 = .ok (.getfield 34, 3) := by decide +kernel
theorem dX4_readText_165 : decode cX4_readText 165 = .ok (.aload_n 0, 1) := by decide +kernel
theorem dX4_readText_166 : decode cX4_readText 166 = .ok (.getfield 84, 3) := by decide +kernel
theorem dX4_readText_169 : decode cX4_readText 169 = .ok (.iaload, 1) := by decide +kernel
theorem dX4_readText_170 : decode cX4_readText 170 = .ok (.bipush 84, 2) := by decide +kernel
theorem dX4_readText_172 : decode cX4_readText 172 = .ok (.if_icmp .ne 137, 3) := by decide +kernel
theorem dX4_readText_175 : decode cX4_readText 175 = .ok (.aload_n 0, 1) := by decide +kernel
theorem dX4_readText_176 : decode cX4_readText 176 = .ok (.getfield 90, 3) := by decide +kernel
theorem dX4_readText_179 : decode cX4_readText 179 = .ok (.bipush 6, 2) := by decide +kernel
theorem dX4_readText_181 : decode cX4_readText 181 = .ok (.if_icmp .ge 128, 3) := by decide +kernel
theorem dX4_readText_184 : decode cX4_readText 184 = .ok (.aload_n 0, 1) := by decide +kernel
theorem dX4_readText_185 : decode cX4_readText 185 = .ok (.getfield 87, 3) := by decide +kernel
theorem dX4_readText_188 : decode cX4_readText 188 = .ok (.ifCond .le 121, 3) := by decide +kernel
theorem dX4_readText_191 : decode cX4_readText 191 = .ok (.aload_n 0, 1) := by decide +kernel
theorem dX4_readText_192 : decode cX4_readText 192 = .ok (.dup, 1) := by decide +kernel
theorem dX4_readText_193 : decode cX4_readText 193 = .ok (.getfield 84, 3) := by decide +kernel
theorem dX4_readText_196 : decode cX4_readText 196 = .ok (.iconst 1, 1) := by decide +kernel
theorem dX4_readText_197 : decode cX4_readText 197 = .ok (.iadd, 1) := by decide +kernel
theorem dX4_readText_198 : decode cX4_readText 198 = .ok (.putfield 84, 3) := by decide +kernel
theorem dX4_readText_201 : decode cX4_readText 201 = .ok (.iconst 5, 1) := by decide +kernel
theorem dX4_readText_202 : decode cX4_readText 202 = .ok (.aload_n 0, 1) := by decide +kernel
theorem dX4_readText_203 : decode cX4_readText 203 = .ok (.getfield 90, 3) := by decide +kernel
theorem dX4_readText_206 : decode cX4_readText 206 = .ok (.imul, 1) := by decide +kernel
theorem dX4_readText_207 : decode cX4_readText 207 = .ok (.istore_n 1, 1) := by decide +kernel
theorem dX4_readText_208 : decode cX4_readText 208 = .ok (.aload_n 0, 1) := by decide +kernel
theorem dX4_readText_209 : decode cX4_readText 209 = .ok (.getfield 31, 3) := by decide +kernel
theorem dX4_readText_212 : decode cX4_readText 212 = .ok (.iload_n 1, 1) := by decide +kernel
theorem dX4_readText_213 : decode cX4_readText 213 = .ok (.aload_n 0, 1) := by decide +kernel
theorem dX4_readText_214 : decode cX4_readText 214 = .ok (.bipush 9, 2) := by decide +kernel
theorem dX4_readText_216 : decode cX4_readText 216 = .ok (.bipush (-9), 2) := by decide +kernel
theorem dX4_readText_218 : decode cX4_readText 218 = .ok (.invokevirtual 93, 3) := by decide +kernel
theorem dX4_readText_221 : decode cX4_readText 221 = .ok (.iastore, 1) := by decide +kernel
theorem dX4_readText_222 : decode cX4_readText 222 = .ok (.aload_n 0, 1) := by decide +kernel
theorem dX4_readText_223 : decode cX4_readText 223 = .ok (.getfield 31, 3) := by decide +kernel
theorem dX4_readText_226 : decode cX4_readText 226 = .ok (.iload_n 1, 1) := by decide +kernel
theorem dX4_readText_227 : decode cX4_readText 227 = .ok (.iconst 1, 1) := by decide +kernel
theorem dX4_readText_228 : decode cX4_readText 228 = .ok (.iadd, 1) := by decide +kernel
theorem dX4_readText_229 : decode cX4_readText 229 = .ok (.aload_n 0, 1) := by decide +kernel
theorem dX4_readText_230 : decode cX4_readText 230 = .ok (.bipush 9, 2) := by decide +kernel
theorem dX4_readText_232 : decode cX4_readText 232 = .ok (.bipush (-9), 2) := by decide +kernel
theorem dX4_readText_234 : decode cX4_readText 234 = .ok (.invokevirtual 93, 3) := by decide +kernel
theorem dX4_readText_237 : decode cX4_readText 237 = .ok (.iastore, 1) := by decide +kernel
theorem dX4_readText_238 : decode cX4_readText 238 = .ok (.aload_n 0, 1) := by decide +kernel
theorem dX4_readText_239 : decode cX4_readText 239 = .ok (.getfield 31, 3) := by decide +kernel
theorem dX4_readText_242 : decode cX4_readText 242 = .ok (.iload_n 1, 1) := by decide +kernel
theorem dX4_readText_243 : decode cX4_readText 243 = .ok (.iconst 2, 1) := by decide +kernel
theorem dX4_readText_244 : decode cX4_readText 244 = .ok (.iadd, 1) := by decide +kernel
theorem dX4_readText_245 : decode cX4_readText 245 = .ok (.aload_n 0, 1) := by decide +kernel
theorem dX4_readText_246 : decode cX4_readText 246 = .ok (.bipush 9, 2) := by decide +kernel
theorem dX4_readText_248 : decode cX4_readText 248 = .ok (.aload_n 0, 1) := by decide +kernel
theorem dX4_readText_249 : decode cX4_readText 249 = .ok (.getfield 31, 3) := by decide +kernel
theorem dX4_readText_252 : decode cX4_readText 252 = .ok (.iload_n 1, 1) := by decide +kernel
theorem dX4_readText_253 : decode cX4_readText 253 = .ok (.iconst 1, 1) := by decide +kernel
theorem dX4_readText_254 : decode cX4_readText 254 = .ok (.iadd, 1) := by decide +kernel
theorem dX4_readText_255 : decode cX4_readText 255 = .ok (.iaload, 1) := by decide +kernel
theorem dX4_readText_256 : decode cX4_readText 256 = .ok (.invokevirtual 93, 3) := by decide +kernel
theorem dX4_readText_259 : decode cX4_readText 259 = .ok (.iastore, 1) := by decide +kernel
theorem dX4_readText_260 : decode cX4_readText 260 = .ok (.aload_n 0, 1) := by decide +kernel
theorem dX4_readText_261 : decode cX4_readText 261 = .ok (.getfield 31, 3) := by decide +kernel
theorem dX4_readText_264 : decode cX4_readText 264 = .ok (.iload_n 1, 1) := by decide +kernel
theorem dX4_readText_265 : decode cX4_readText 265 = .ok (.iconst 3, 1) := by decide +kernel
theorem dX4_readText_266 : decode cX4_readText 266 = .ok (.iadd, 1) := by decide +kernel
theorem dX4_readText_267 : decode cX4_readText 267 = .ok (.aload_n 0, 1) := by decide +kernel
theorem dX4_readText_268 : decode cX4_readText 268 = .ok (.bipush 9, 2) := by decide +kernel
theorem dX4_readText_270 : decode cX4_readText 270 = .ok (.bipush (-9), 2) := by decide +kernel
theorem dX4_readText_272 : decode cX4_readText 272 = .ok (.invokevirtual 93, 3) := by decide +kernel
theorem dX4_readText_275 : decode cX4_readText 275 = .ok (.iastore, 1) := by decide +kernel
theorem dX4_readText_276 : decode cX4_readText 276 = .ok (.aload_n 0, 1) := by decide +kernel
theorem dX4_readText_277 : decode cX4_readText 277 = .ok (.getfield 31, 3) := by decide +kernel
theorem dX4_readText_280 : decode cX4_readText 280 = .ok (.iload_n 1, 1) := by decide +kernel
theorem dX4_readText_281 : decode cX4_readText 281 = .ok (.iconst 4, 1) := by decide +kernel
theorem dX4_readText_282 : decode cX4_readText 282 = .ok (.iadd, 1) := by decide +kernel
theorem dX4_readText_283 : decode cX4_readText 283 = .ok (.aload_n 0, 1) := by decide +kernel
theorem dX4_readText_284 : decode cX4_readText 284 = .ok (.aload_n 0, 1) := by decide +kernel
theorem dX4_readText_285 : decode cX4_readText 285 = .ok (.getfield 87, 3) := by decide +kernel
theorem dX4_readText_288 : decode cX4_readText 288 = .ok (.iconst 1, 1) := by decide +kernel
theorem dX4_readText_289 : decode cX4_readText 289 = .ok (.isub, 1) := by decide +kernel
theorem dX4_readText_290 : decode cX4_readText 290 = .ok (.bipush (-9), 2) := by decide +kernel
theorem dX4_readText_292 : decode cX4_readText 292 = .ok (.invokevirtual 93, 3) := by decide +kernel
theorem dX4_readText_295 : decode cX4_readText 295 = .ok (.iastore, 1) := by decide +kernel
theorem dX4_readText_296 : decode cX4_readText 296 = .ok (.aload_n 0, 1) := by decide +kernel
theorem dX4_readText_297 : decode cX4_readText 297 = .ok (.dup, 1) := by decide +kernel
theorem dX4_readText_298 : decode cX4_readText 298 = .ok (.getfield 90, 3) := by decide +kernel
theorem dX4_readText_301 : decode cX4_readText 301 = .ok (.iconst 1, 1) := by decide +kernel
theorem dX4_readText_302 : decode cX4_readText 302 = .ok (.iadd, 1) := by decide +kernel
theorem dX4_readText_303 : decode cX4_readText 303 = .ok (.putfield 90, 3) := by decide +kernel
theorem dX4_readText_306 : decode cX4_readText 306 = .ok (.goto (-260), 3) := by decide +kernel
theorem dX4_readText_309 : decode cX4_readText 309 = .ok (.aload_n 0, 1) := by decide +kernel
theorem dX4_readText_310 : decode cX4_readText 310 = .ok (.aload_n 0, 1) := by decide +kernel
theorem dX4_readText_311 : decode cX4_readText 311 = .ok (.getfield 84, 3) := by decide +kernel
theorem dX4_readText_314 : decode cX4_readText 314 = .ok (.putfield 81, 3) := by decide +kernel
theorem dX4_readText_317 : decode cX4_readText 317 = .ok (.goto (-271), 3) := by decide +kernel
theorem dX4_readText_320 : decode cX4_readText 320 = .ok (.aload_n 0, 1) := by decide +kernel
theorem dX4_readText_321 : decode cX4_readText 321 = .ok (.getfield 81, 3) := by decide +kernel
theorem dX4_readText_324 : decode cX4_readText 324 = .ok (.ireturn, 1) := by decide +kernel
set_option maxRecDepth 20000 in
theorem ggX4_fault_X4_readText : GoodIn wsX4_fault wsX4_readText := goodIn_r _ [5, 6, 7, 8, 9, 10, 11, 12, 13, 14, 15, 16, 17, 18, 4, 19, 20, 21, 22, 23, 24, 25, 26, 27, 28, 29, 30, 31, 32, 33, 34, 35, 36, 37, 38, 39, 40, 41, 42, 43, 44, 45, 46, 47, 48, 49, 50, 51, 52] rfl (by decide +kernel)
set_option maxRecDepth 20000 in
theorem gX4_fault_X4_readText : GoodIn wsX4_fault (wsV RX4 97 RX4 yX4_readText wsX4_readText) := goodIn_app (goodIn_r _ [1, 2, 3, 4] rfl (by decide +kernel)) ggX4_fault_X4_readText
theorem dX4_fault_0 : decode cX4_fault 0 = .ok (.aload_n 0, 1) := by decide +kernel
theorem dX4_fault_1 : decode cX4_fault 1 = .ok (.invokevirtual 97, 3) := by decide +kernel
theorem dX4_fault_4 : decode cX4_fault 4 = .ok (.ireturn, 1) := by decide +kernel
set_option maxRecDepth 20000 in
theorem ggX4_line_X4_readText : GoodIn wsX4_line wsX4_readText := goodIn_r _ [19, 20, 21, 1, 3, 22, 23, 10, 7, 9, 11, 24, 25, 26, 18, 27, 28, 29, 30, 31, 32, 33, 34, 35, 36, 37, 38, 39, 40, 41, 42, 43, 44, 45, 46, 47, 48, 49, 50, 51, 52, 53, 54, 55, 56, 57, 58, 59, 60] rfl (by decide +kernel)
set_option maxRecDepth 20000 in
theorem gX4_line_X4_readText : GoodIn wsX4_line (wsV RX4 97 RX4 yX4_readText wsX4_readText) := goodIn_app (goodIn_r _ [15, 16, 17, 18] rfl (by decide +kernel)) ggX4_line_X4_readText
theorem dX4_line_0 : decode cX4_line 0 = .ok (.aload_n 0, 1) := by decide +kernel
theorem dX4_line_1 : decode cX4_line 1 = .ok (.invokevirtual 97, 3) := by decide +kernel
theorem dX4_line_4 : decode cX4_line 4 = .ok (.bipush (-9), 2) := by decide +kernel
theorem dX4_line_6 : decode cX4_line 6 = .ok (.if_icmp .eq 6, 3) := by decide +kernel
theorem dX4_line_9 : decode cX4_line 9 = .ok (.bipush (-3), 2) := by decide +kernel
theorem dX4_line_11 : decode cX4_line 11 = .ok (.ireturn, 1) := by decide +kernel
theorem dX4_line_12 : decode cX4_line 12 = .ok (.aload_n 0, 1) := by decide +kernel
theorem dX4_line_13 : decode cX4_line 13 = .ok (.aload_n 0, 1) := by decide +kernel
theorem dX4_line_14 : decode cX4_line 14 = .ok (.getfield 87, 3) := by decide +kernel
theorem dX4_line_17 : decode cX4_line 17 = .ok (.putfield 68, 3) := by decide +kernel
theorem dX4_line_20 : decode cX4_line 20 = .ok (.aload_n 0, 1) := by decide +kernel
theorem dX4_line_21 : decode cX4_line 21 = .ok (.aload_n 0, 1) := by decide +kernel
theorem dX4_line_22 : decode cX4_line 22 = .ok (.getfield 90, 3) := by decide +kernel
theorem dX4_line_25 : decode cX4_line 25 = .ok (.putfield 101, 3) := by decide +kernel
theorem dX4_line_28 : decode cX4_line 28 = .ok (.aload_n 0, 1) := by decide +kernel
theorem dX4_line_29 : decode cX4_line 29 = .ok (.getfield 19, 3) := by decide +kernel
theorem dX4_line_32 : decode cX4_line 32 = .ok (.iconst 0, 1) := by decide +kernel
theorem dX4_line_33 : decode cX4_line 33 = .ok (.iconst 0, 1) := by decide +kernel
theorem dX4_line_34 : decode cX4_line 34 = .ok (.iastore, 1) := by decide +kernel
theorem dX4_line_35 : decode cX4_line 35 = .ok (.iconst 0, 1) := by decide +kernel
theorem dX4_line_36 : decode cX4_line 36 = .ok (.istore_n 1, 1) := by decide +kernel
theorem dX4_line_37 : decode cX4_line 37 = .ok (.iload_n 1, 1) := by decide +kernel
theorem dX4_line_38 : decode cX4_line 38 = .ok (.iconst 5, 1) := by decide +kernel
theorem dX4_line_39 : decode cX4_line 39 = .ok (.if_icmp .ge 47, 3) := by decide +kernel
theorem dX4_line_42 : decode cX4_line 42 = .ok (.aload_n 0, 1) := by decide +kernel
theorem dX4_line_43 : decode cX4_line 43 = .ok (.getfield 7, 3) := by decide +kernel
theorem dX4_line_46 : decode cX4_line 46 = .ok (.iload_n 1, 1) := by decide +kernel
theorem dX4_line_47 : decode cX4_line 47 = .ok (.aload_n 0, 1) := by decide +kernel
theorem dX4_line_48 : decode cX4_line 48 = .ok (.getfield 25, 3) := by decide +kernel
theorem dX4_line_51 : decode cX4_line 51 = .ok (.iload_n 1, 1) := by decide +kernel
theorem dX4_line_52 : decode cX4_line 52 = .ok (.iaload, 1) := by decide +kernel
theorem dX4_line_53 : decode cX4_line 53 = .ok (.iastore, 1) := by decide +kernel
theorem dX4_line_54 : decode cX4_line 54 = .ok (.aload_n 0, 1) := by decide +kernel
theorem dX4_line_55 : decode cX4_line 55 = .ok (.getfield 13, 3) := by decide +kernel
theorem dX4_line_58 : decode cX4_line 58 = .ok (.iload_n 1, 1) := by decide +kernel
theorem dX4_line_59 : decode cX4_line 59 = .ok (.aload_n 0, 1) := by decide +kernel
theorem dX4_line_60 : decode cX4_line 60 = .ok (.getfield 28, 3) := by decide +kernel
theorem dX4_line_63 : decode cX4_line 63 = .ok (.iload_n 1, 1) := by decide +kernel
theorem dX4_line_64 : decode cX4_line 64 = .ok (.iaload, 1) := by decide +kernel
theorem dX4_line_65 : decode cX4_line 65 = .ok (.iastore, 1) := by decide +kernel
theorem dX4_line_66 : decode cX4_line 66 = .ok (.aload_n 0, 1) := by decide +kernel
theorem dX4_line_67 : decode cX4_line 67 = .ok (.getfield 19, 3) := by decide +kernel
theorem dX4_line_70 : decode cX4_line 70 = .ok (.iconst 1, 1) := by decide +kernel
theorem dX4_line_71 : decode cX4_line 71 = .ok (.iload_n 1, 1) := by decide +kernel
theorem dX4_line_72 : decode cX4_line 72 = .ok (.iadd, 1) := by decide +kernel
theorem dX4_line_73 : decode cX4_line 73 = .ok (.aload_n 0, 1) := by decide +kernel
theorem dX4_line_74 : decode cX4_line 74 = .ok (.getfield 22, 3) := by decide +kernel
theorem dX4_line_77 : decode cX4_line 77 = .ok (.iload_n 1, 1) := by decide +kernel
theorem dX4_line_78 : decode cX4_line 78 = .ok (.iaload, 1) := by decide +kernel
theorem dX4_line_79 : decode cX4_line 79 = .ok (.iastore, 1) := by decide +kernel
theorem dX4_line_80 : decode cX4_line 80 = .ok (.iinc 1 1, 3) := by decide +kernel
theorem dX4_line_83 : decode cX4_line 83 = .ok (.goto (-46), 3) := by decide +kernel
theorem dX4_line_86 : decode cX4_line 86 = .ok (.iconst 0, 1) := by decide +kernel
theorem dX4_line_87 : decode cX4_line 87 = .ok (.istore_n 1, 1) := by decide +kernel
theorem dX4_line_88 : decode cX4_line 88 = .ok (.iload_n 1, 1) := by decide +kernel
theorem dX4_line_89 : decode cX4_line 89 = .ok (.aload_n 0, 1) := by decide +kernel
theorem dX4_line_90 : decode cX4_line 90 = .ok (.getfield 101, 3) := by decide +kernel
theorem dX4_line_93 : decode cX4_line 93 = .ok (.if_icmp .ge 119, 3) := by decide +kernel
theorem dX4_line_96 : decode cX4_line 96 = .ok (.bipush 6, 2) := by decide +kernel
theorem dX4_line_98 : decode cX4_line 98 = .ok (.bipush 6, 2) := by decide +kernel
theorem dX4_line_100 : decode cX4_line 100 = .ok (.iload_n 1, 1) := by decide +kernel
theorem dX4_line_101 : decode cX4_line 101 = .ok (.imul, 1) := by decide +kernel
theorem dX4_line_102 : decode cX4_line 102 = .ok (.iadd, 1) := by decide +kernel
theorem dX4_line_103 : decode cX4_line 103 = .ok (.istore_n 2, 1) := by decide +kernel
theorem dX4_line_104 : decode cX4_line 104 = .ok (.aload_n 0, 1) := by decide +kernel
theorem dX4_line_105 : decode cX4_line 105 = .ok (.getfield 19, 3) := by decide +kernel
theorem dX4_line_108 : decode cX4_line 108 = .ok (.iload_n 2, 1) := by decide +kernel
theorem dX4_line_109 : decode cX4_line 109 = .ok (.aload_n 0, 1) := by decide +kernel
theorem dX4_line_110 : decode cX4_line 110 = .ok (.getfield 31, 3) := by decide +kernel
theorem dX4_line_113 : decode cX4_line 113 = .ok (.iconst 5, 1) := by decide +kernel
theorem dX4_line_114 : decode cX4_line 114 = .ok (.iload_n 1, 1) := by decide +kernel
theorem dX4_line_115 : decode cX4_line 115 = .ok (.imul, 1) := by decide +kernel
theorem dX4_line_116 : decode cX4_line 116 = .ok (.iaload, 1) := by decide +kernel
theorem dX4_line_117 : decode cX4_line 117 = .ok (.iastore, 1) := by decide +kernel
theorem dX4_line_118 : decode cX4_line 118 = .ok (.aload_n 0, 1) := by decide +kernel
theorem dX4_line_119 : decode cX4_line 119 = .ok (.getfield 19, 3) := by decide +kernel
theorem dX4_line_122 : decode cX4_line 122 = .ok (.iload_n 2, 1) := by decide +kernel
theorem dX4_line_123 : decode cX4_line 123 = .ok (.iconst 1, 1) := by decide +kernel
theorem dX4_line_124 : decode cX4_line 124 = .ok (.iadd, 1) := by decide +kernel
theorem dX4_line_125 : decode cX4_line 125 = .ok (.aload_n 0, 1) := by decide +kernel
theorem dX4_line_126 : decode cX4_line 126 = .ok (.getfield 31, 3) := by decide +kernel
theorem dX4_line_129 : decode cX4_line 129 = .ok (.iconst 5, 1) := by decide +kernel
theorem dX4_line_130 : decode cX4_line 130 = .ok (.iload_n 1, 1) := by decide +kernel
theorem dX4_line_131 : decode cX4_line 131 = .ok (.imul, 1) := by decide +kernel
theorem dX4_line_132 : decode cX4_line 132 = .ok (.iconst 1, 1) := by decide +kernel
theorem dX4_line_133 : decode cX4_line 133 = .ok (.iadd, 1) := by decide +kernel
theorem dX4_line_134 : decode cX4_line 134 = .ok (.iaload, 1) := by decide +kernel
theorem dX4_line_135 : decode cX4_line 135 = .ok (.iastore, 1) := by decide +kernel
theorem dX4_line_136 : decode cX4_line 136 = .ok (.aload_n 0, 1) := by decide +kernel
theorem dX4_line_137 : decode cX4_line 137 = .ok (.getfield 19, 3) := by decide +kernel
theorem dX4_line_140 : decode cX4_line 140 = .ok (.iload_n 2, 1) := by decide +kernel
theorem dX4_line_141 : decode cX4_line 141 = .ok (.iconst 2, 1) := by decide +kernel
theorem dX4_line_142 : decode cX4_line 142 = .ok (.iadd, 1) := by decide +kernel
theorem dX4_line_143 : decode cX4_line 143 = .ok (.aload_n 0, 1) := by decide +kernel
theorem dX4_line_144 : decode cX4_line 144 = .ok (.getfield 31, 3) := by decide +kernel
theorem dX4_line_147 : decode cX4_line 147 = .ok (.iconst 5, 1) := by decide +kernel
theorem dX4_line_148 : decode cX4_line 148 = .ok (.iload_n 1, 1) := by decide +kernel
theorem dX4_line_149 : decode cX4_line 149 = .ok (.imul, 1) := by decide +kernel
theorem dX4_line_150 : decode cX4_line 150 = .ok (.iconst 2, 1) := by decide +kernel
theorem dX4_line_151 : decode cX4_line 151 = .ok (.iadd, 1) := by decide +kernel
theorem dX4_line_152 : decode cX4_line 152 = .ok (.iaload, 1) := by decide +kernel
theorem dX4_line_153 : decode cX4_line 153 = .ok (.iastore, 1) := by decide +kernel
theorem dX4_line_154 : decode cX4_line 154 = .ok (.aload_n 0, 1) := by decide +kernel
theorem dX4_line_155 : decode cX4_line 155 = .ok (.getfield 19, 3) := by decide +kernel
theorem dX4_line_158 : decode cX4_line 158 = .ok (.iload_n 2, 1) := by decide +kernel
theorem dX4_line_159 : decode cX4_line 159 = .ok (.iconst 3, 1) := by decide +kernel
theorem dX4_line_160 : decode cX4_line 160 = .ok (.iadd, 1) := by decide +kernel
theorem dX4_line_161 : decode cX4_line 161 = .ok (.aload_n 0, 1) := by decide +kernel
theorem dX4_line_162 : decode cX4_line 162 = .ok (.getfield 31, 3) := by decide +kernel
theorem dX4_line_165 : decode cX4_line 165 = .ok (.iconst 5, 1) := by decide +kernel
theorem dX4_line_166 : decode cX4_line 166 = .ok (.iload_n 1, 1) := by decide +kernel
theorem dX4_line_167 : decode cX4_line 167 = .ok (.imul, 1) := by decide +kernel
theorem dX4_line_168 : decode cX4_line 168 = .ok (.iconst 4, 1) := by decide +kernel
theorem dX4_line_169 : decode cX4_line 169 = .ok (.iadd, 1) := by decide +kernel
theorem dX4_line_170 : decode cX4_line 170 = .ok (.iaload, 1) := by decide +kernel
theorem dX4_line_171 : decode cX4_line 171 = .ok (.iastore, 1) := by decide +kernel
theorem dX4_line_172 : decode cX4_line 172 = .ok (.aload_n 0, 1) := by decide +kernel
theorem dX4_line_173 : decode cX4_line 173 = .ok (.getfield 19, 3) := by decide +kernel
theorem dX4_line_176 : decode cX4_line 176 = .ok (.iload_n 2, 1) := by decide +kernel
theorem dX4_line_177 : decode cX4_line 177 = .ok (.iconst 4, 1) := by decide +kernel
theorem dX4_line_178 : decode cX4_line 178 = .ok (.iadd, 1) := by decide +kernel
theorem dX4_line_179 : decode cX4_line 179 = .ok (.iconst 0, 1) := by decide +kernel
theorem dX4_line_180 : decode cX4_line 180 = .ok (.iastore, 1) := by decide +kernel
theorem dX4_line_181 : decode cX4_line 181 = .ok (.aload_n 0, 1) := by decide +kernel
theorem dX4_line_182 : decode cX4_line 182 = .ok (.getfield 19, 3) := by decide +kernel
theorem dX4_line_185 : decode cX4_line 185 = .ok (.iload_n 2, 1) := by decide +kernel
theorem dX4_line_186 : decode cX4_line 186 = .ok (.iconst 5, 1) := by decide +kernel
theorem dX4_line_187 : decode cX4_line 187 = .ok (.iadd, 1) := by decide +kernel
theorem dX4_line_188 : decode cX4_line 188 = .ok (.iconst 0, 1) := by decide +kernel
theorem dX4_line_189 : decode cX4_line 189 = .ok (.iastore, 1) := by decide +kernel
theorem dX4_line_190 : decode cX4_line 190 = .ok (.aload_n 0, 1) := by decide +kernel
theorem dX4_line_191 : decode cX4_line 191 = .ok (.getfield 16, 3) := by decide +kernel
theorem dX4_line_194 : decode cX4_line 194 = .ok (.iload_n 1, 1) := by decide +kernel
theorem dX4_line_195 : decode cX4_line 195 = .ok (.aload_n 0, 1) := by decide +kernel
theorem dX4_line_196 : decode cX4_line 196 = .ok (.getfield 31, 3) := by decide +kernel
theorem dX4_line_199 : decode cX4_line 199 = .ok (.iconst 5, 1) := by decide +kernel
theorem dX4_line_200 : decode cX4_line 200 = .ok (.iload_n 1, 1) := by decide +kernel
theorem dX4_line_201 : decode cX4_line 201 = .ok (.imul, 1) := by decide +kernel
theorem dX4_line_202 : decode cX4_line 202 = .ok (.iconst 3, 1) := by decide +kernel
theorem dX4_line_203 : decode cX4_line 203 = .ok (.iadd, 1) := by decide +kernel
theorem dX4_line_204 : decode cX4_line 204 = .ok (.iaload, 1) := by decide +kernel
theorem dX4_line_205 : decode cX4_line 205 = .ok (.iastore, 1) := by decide +kernel
theorem dX4_line_206 : decode cX4_line 206 = .ok (.iinc 1 1, 3) := by decide +kernel
theorem dX4_line_209 : decode cX4_line 209 = .ok (.goto (-121), 3) := by decide +kernel
theorem dX4_line_212 : decode cX4_line 212 = .ok (.aload_n 0, 1) := by decide +kernel
theorem dX4_line_213 : decode cX4_line 213 = .ok (.iconst 0, 1) := by decide +kernel
theorem dX4_line_214 : decode cX4_line 214 = .ok (.putfield 104, 3) := by decide +kernel
theorem dX4_line_217 : decode cX4_line 217 = .ok (.aload_n 0, 1) := by decide +kernel
theorem dX4_line_218 : decode cX4_line 218 = .ok (.getfield 61, 3) := by decide +kernel
theorem dX4_line_221 : decode cX4_line 221 = .ok (.iconst 0, 1) := by decide +kernel
theorem dX4_line_222 : decode cX4_line 222 = .ok (.iconst 0, 1) := by decide +kernel
theorem dX4_line_223 : decode cX4_line 223 = .ok (.bastore, 1) := by decide +kernel
theorem dX4_line_224 : decode cX4_line 224 = .ok (.aload_n 0, 1) := by decide +kernel
theorem dX4_line_225 : decode cX4_line 225 = .ok (.getfield 61, 3) := by decide +kernel
theorem dX4_line_228 : decode cX4_line 228 = .ok (.iconst 1, 1) := by decide +kernel
theorem dX4_line_229 : decode cX4_line 229 = .ok (.iconst 0, 1) := by decide +kernel
theorem dX4_line_230 : decode cX4_line 230 = .ok (.bastore, 1) := by decide +kernel
theorem dX4_line_231 : decode cX4_line 231 = .ok (.bipush 10, 2) := by decide +kernel
theorem dX4_line_233 : decode cX4_line 233 = .ok (.aload_n 0, 1) := by decide +kernel
theorem dX4_line_234 : decode cX4_line 234 = .ok (.getfield 68, 3) := by decide +kernel
theorem dX4_line_237 : decode cX4_line 237 = .ok (.imul, 1) := by decide +kernel
theorem dX4_line_238 : decode cX4_line 238 = .ok (.aload_n 0, 1) := by decide +kernel
theorem dX4_line_239 : decode cX4_line 239 = .ok (.getfield 101, 3) := by decide +kernel
theorem dX4_line_242 : decode cX4_line 242 = .ok (.iadd, 1) := by decide +kernel
theorem dX4_line_243 : decode cX4_line 243 = .ok (.ireturn, 1) := by decide +kernel
set_option maxHeartbeats 600000 in
set_option maxRecDepth 100000 in
theorem c_X4_figure (l : Launch) (D : va_G) (cI cZ cM : ClassId) (h0 : Nat) (n : Int32) (k : Int32) (ype : Int32) (ytk : Int32) (ywi : Nat) (yki : Nat) (yse : Nat) (yno : Nat) (yrh : Nat) (yrw : Nat) (yrk : Nat) (yrt : Nat) (yrp : Int32) (yrq : Int32) (ytx : Nat) (yle : Int32) (yat : Int32) (yfa : Int32) (yby : Nat) (ylo : Nat) (yhi : Nat) (yac : Int32) (ynx : Int32) (yro : Nat) (ygl : Nat) (ysn : Int32) (yso : Nat) (ysp : Nat) (ysw : Nat) (ysd : Int64) (yik : Nat) (ykp : Nat) (Ftx : Nat → Int32) (sz : Nat) (h_yat : 0 ≤ yat.toInt ∧ yat.toInt ≤ 64) (h_yfa : -9 ≤ yfa.toInt ∧ yfa.toInt ≤ 64) (h_yle : 0 ≤ yle.toInt ∧ yle.toInt ≤ 64) : Ci l yX4_figure wsX4_figure ({ frames := 1, cells := 0, slots := 0, locals := 25 } : Room) D cI cZ cM [.ref h0, .int n, .int k] [(h0, .inr (4, [.int ype, .int ytk, .ref ywi, .ref yki, .ref yse, .ref yno, .ref yrh, .ref yrw, .ref yrk, .ref yrt, .int yrp, .int yrq, .ref ytx, .int yle, .int yat, .int yfa, .ref yby, .ref ylo, .ref yhi, .int yac, .int ynx, .ref yro, .ref ygl, .int ysn, .ref yso, .ref ysp, .ref ysw, .long ysd, .ref yik, .ref ykp])), (ytx, .inl (cI, 64, .inl Ftx))] sz (fun (r : Int32) (u : Int32 × Int32) => 0 ≤ u.1.toInt ∧ u.1.toInt ≤ 64 ∧ yat.toInt ≤ u.1.toInt ∧ -9 ≤ u.2.toInt ∧ u.2.toInt ≤ 64 ∧ yfa.toInt ≤ u.2.toInt) (fun u => [(h0, .inr (4, [.int ype, .int ytk, .ref ywi, .ref yki, .ref yse, .ref yno, .ref yrh, .ref yrw, .ref yrk, .ref yrt, .int yrp, .int yrq, .ref ytx, .int yle, .int u.1, .int u.2, .ref yby, .ref ylo, .ref yhi, .int yac, .int ynx, .ref yro, .ref ygl, .int ysn, .ref yso, .ref ysp, .ref ysw, .long ysd, .ref yik, .ref ykp])), (ytx, .inl (cI, 64, .inl Ftx))]) 0 0 := by
  refine begins (l := l) (y := yX4_figure) (ws := wsX4_figure) (av := [.ref h0, .int n, .int k]) (Qc := fun A => va_Qi (fun (r : Int32) (u : Int32 × Int32) => 0 ≤ u.1.toInt ∧ u.1.toInt ≤ 64 ∧ yat.toInt ≤ u.1.toInt ∧ -9 ≤ u.2.toInt ∧ u.2.toInt ≤ 64 ∧ yfa.toInt ≤ u.2.toInt) (fun u => Wd D cI cZ cM A ((fun u => [(h0, .inr (4, [.int ype, .int ytk, .ref ywi, .ref yki, .ref yse, .ref yno, .ref yrh, .ref yrw, .ref yrk, .ref yrt, .int yrp, .int yrq, .ref ytx, .int yle, .int u.1, .int u.2, .ref yby, .ref ylo, .ref yhi, .int yac, .int ynx, .ref yro, .ref ygl, .int ysn, .ref yso, .ref ysp, .ref ysw, .long ysd, .ref yik, .ref ykp])), (ytx, .inl (cI, 64, .inl Ftx))]) u)) A) cX4_figure 4 (some .int) (by decide) rfl (Nat.le_of_ble_eq_true rfl) ?_
  intro p e s m args below meth c R Q A ls hBd hR hQ hA hS hK hP hD hl
  obtain ⟨hx, hb, hr, hts, hown, hlocks, hin, hml⟩ := hBd
  have hl : lv_has ls 4 [(0, .ref h0), (1, .int n), (2, .int k)] := hl
  have iX4 : ∀ w ∈ wsX40, w ∈ wsX4_figure := fun _ h => List.mem_cons_of_mem _ (List.mem_append_right _ h)
  obtain ⟨h_yata, h_yatb⟩ := h_yat
  obtain ⟨h_yfaa, h_yfab⟩ := h_yfa
  obtain ⟨h_ylea, h_yleb⟩ := h_yle
  refine lv_aload_n hx hb dX4_figure_0 rfl (lv_at hl 0 rfl) ?_
  refine va_get (D := D) (ci := 4) (v := .int yfa) (C := RX4) (T := TX4) (N := 30) hx hb hts iX4 hown hK hP 0 rfl rfl 15 (by decide) (hts (.fieldLink RX4 81 "PunchedTicketModel" "faultAt" "I") (List.mem_of_getElem? (i := 1) rfl)) (fun _ h9 => h9) rfl dX4_figure_1 ?_
  refine lv_bipush (v := (-9)) hx hb dX4_figure_4 (by decide) ?_
  refine lv_icmp_ne (tgt := 35) hx hb dX4_figure_6 (by decide) (fun c_1 => ?_) (fun c_1 => ?_)
  · have tc_1 := b_ne rfl (show ((-9) : Int32).toInt = -9 by decide) c_1
    refine lv_bipush (v := (-9)) hx hb dX4_figure_35 (by decide) ?_
    refine lv_istore_n (lv' := [(3, .int (-9)), (0, .ref h0), (1, .int n), (2, .int k)]) hx hb dX4_figure_37 rfl hl (by decide) rfl (fun ls hl => ?_)
    refine lv_iload_n hx hb dX4_figure_38 rfl (lv_at hl 0 rfl) ?_
    refine lv_i2l (v := (-9)) hx hb dX4_figure_39 (by decide) ?_
    refine lv_lconst (v := 0) hx hb dX4_figure_40 (by decide) ?_
    refine lv_iload_n hx hb dX4_figure_41 rfl (lv_at hl 2 rfl) ?_
    obtain ⟨w_2, ew_2⟩ : ∃ z : Int64, n.toInt64 = z := ⟨_, rfl⟩
    have tw_2 : w_2.toInt = n.toInt := by rw [← ew_2, Int32.toInt_toInt64]
    refine lv_i2l hx hb dX4_figure_42 ew_2 ?_
    refine cS_i (As := [.long (-9), .long 0, .long w_2]) (rest := []) ⟨hx, hb, hml, hown, hts⟩ (c_X4_in l D cI cZ cM (-9) 0 w_2 _ ) (va_cwS 3 hts gX4_figure_X4_in rfl rfl rfl (by decide +kernel) ⟨by rw [hR]; decide, by rw [hR]; decide⟩) hK hP hD hS hA [] [0, 1] rfl rfl (by decide) (by decide) (by decide) hl.1 rfl rfl (Nat.le_of_ble_eq_true rfl) dX4_figure_43 ⟨by rw [hR]; decide, by rw [hR]; decide⟩ (fun r_3 u_4 H locs hw hP hD hS => ?_)
    have hP : va_P D vwCl [(h0, .inr (4, [.int ype, .int ytk, .ref ywi, .ref yki, .ref yse, .ref yno, .ref yrh, .ref yrw, .ref yrk, .ref yrt, .int yrp, .int yrq, .ref ytx, .int yle, .int yat, .int yfa, .ref yby, .ref ylo, .ref yhi, .int yac, .int ynx, .ref yro, .ref ygl, .int ysn, .ref yso, .ref ysp, .ref ysw, .long ysd, .ref yik, .ref ykp])), (ytx, .inl (cI, 64, .inl Ftx))] H := hP.sub [0, 1] rfl
    have hD : va_D A [(h0, .inr (4, [.int ype, .int ytk, .ref ywi, .ref yki, .ref yse, .ref yno, .ref yrh, .ref yrw, .ref yrk, .ref yrt, .int yrp, .int yrq, .ref ytx, .int yle, .int yat, .int yfa, .ref yby, .ref ylo, .ref yhi, .int yac, .int ynx, .ref yro, .ref ygl, .int ysn, .ref yso, .ref ysp, .ref ysw, .long ysd, .ref yik, .ref ykp])), (ytx, .inl (cI, 64, .inl Ftx))] := hD.sub [0, 1] (by decide) rfl
    refine W.widen (k := 0) (n := 0) (Nat.le_refl _) (Nat.le_refl _) ?_
    have hw : (r_3.toInt = 1 ∧ (0 : Int) ≤ (-9 : Int) ∧ (-9 : Int) ≤ w_2.toInt) ∨ (r_3.toInt = 0 ∧ ((-9 : Int) < (0 : Int) ∨ w_2.toInt < (-9 : Int))) := hw
    have hw_5 := hw
    refine lv_if_eq (tgt := 54) hx hb dX4_figure_46 (by decide) (fun c_6 => ?_) (fun c_6 => ?_)
    · have tc_6 := b_eq rfl (show (0 : Int32).toInt = 0 by decide) c_6
      refine lv_aload_n hx hb dX4_figure_54 rfl (lv_at hl 1 rfl) ?_
      refine lv_aload_n hx hb dX4_figure_55 rfl (lv_at hl 1 rfl) ?_
      refine va_get (D := D) (ci := 4) (v := .int yfa) (C := RX4) (T := TX4) (N := 30) hx hb hts iX4 hown hK hP 0 rfl rfl 15 (by decide) (hts (.fieldLink RX4 81 "PunchedTicketModel" "faultAt" "I") (List.mem_of_getElem? (i := 1) rfl)) (fun _ h9 => h9) rfl dX4_figure_56 ?_
      refine lv_bipush (v := (-9)) hx hb dX4_figure_59 (by decide) ?_
      refine lv_icmp_ne (tgt := 71) hx hb dX4_figure_61 (by decide) (fun c_7 => ?_) (fun c_7 => ?_)
      · have tc_7 := b_ne rfl (show ((-9) : Int32).toInt = -9 by decide) c_7
        refine lv_aload_n hx hb dX4_figure_71 rfl (lv_at hl 1 rfl) ?_
        refine va_get (D := D) (ci := 4) (v := .int yfa) (C := RX4) (T := TX4) (N := 30) hx hb hts iX4 hown hK hP 0 rfl rfl 15 (by decide) (hts (.fieldLink RX4 81 "PunchedTicketModel" "faultAt" "I") (List.mem_of_getElem? (i := 1) rfl)) (fun _ h9 => h9) rfl dX4_figure_72 ?_
        refine va_put (D := D) (ci := 4) (v := .int yfa) (ty := .int) (C := RX4) (T := TX4) (N := 30) hx hb hts iX4 tyX4 tyX4_ok nmX4 hown hK hP hD hS 0 rfl rfl 15 (by decide) (hts (.fieldLink RX4 81 "PunchedTicketModel" "faultAt" "I") (List.mem_of_getElem? (i := 1) rfl)) (fun _ h9 => h9) rfl (by decide +kernel) rfl rfl (Nat.le_of_ble_eq_true rfl) dX4_figure_75 (fun H locs hP hD hS => ?_)
        have hP : va_P D vwCl [(h0, .inr (4, [.int ype, .int ytk, .ref ywi, .ref yki, .ref yse, .ref yno, .ref yrh, .ref yrw, .ref yrk, .ref yrt, .int yrp, .int yrq, .ref ytx, .int yle, .int yat, .int yfa, .ref yby, .ref ylo, .ref yhi, .int yac, .int ynx, .ref yro, .ref ygl, .int ysn, .ref yso, .ref ysp, .ref ysw, .long ysd, .ref yik, .ref ykp])), (ytx, .inl (cI, 64, .inl Ftx))] H := hP
        have hD : va_D A [(h0, .inr (4, [.int ype, .int ytk, .ref ywi, .ref yki, .ref yse, .ref yno, .ref yrh, .ref yrw, .ref yrk, .ref yrt, .int yrp, .int yrq, .ref ytx, .int yle, .int yat, .int yfa, .ref yby, .ref ylo, .ref yhi, .int yac, .int ynx, .ref yro, .ref ygl, .int ysn, .ref yso, .ref ysp, .ref ysw, .long ysd, .ref yik, .ref ykp])), (ytx, .inl (cI, 64, .inl Ftx))] := hD
        refine lv_iconst (v := 0) hx hb dX4_figure_78 (by decide) ?_
        exact ret_i (post := (fun (r : Int32) (u : Int32 × Int32) => 0 ≤ u.1.toInt ∧ u.1.toInt ≤ 64 ∧ yat.toInt ≤ u.1.toInt ∧ -9 ≤ u.2.toInt ∧ u.2.toInt ≤ 64 ∧ yfa.toInt ≤ u.2.toInt)) (W1 := (fun u => [(h0, .inr (4, [.int ype, .int ytk, .ref ywi, .ref yki, .ref yse, .ref yno, .ref yrh, .ref yrw, .ref yrk, .ref yrt, .int yrp, .int yrq, .ref ytx, .int yle, .int u.1, .int u.2, .ref yby, .ref ylo, .ref yhi, .int yac, .int ynx, .ref yro, .ref ygl, .int ysn, .ref yso, .ref ysp, .ref ysw, .long ysd, .ref yik, .ref ykp])), (ytx, .inl (cI, 64, .inl Ftx))])) (yat, yfa) hx hb hr hlocks rfl hQ hK hP hD hS ⟨by decide, by decide⟩ dX4_figure_79 (show 0 ≤ yat.toInt ∧ yat.toInt ≤ 64 ∧ yat.toInt ≤ yat.toInt ∧ -9 ≤ yfa.toInt ∧ yfa.toInt ≤ 64 ∧ yfa.toInt ≤ yfa.toInt by omega)
      · have tc_7 := b_eq rfl (show ((-9) : Int32).toInt = -9 by decide) c_7
        exfalso; omega
    · have tc_6 := b_ne rfl (show (0 : Int32).toInt = 0 by decide) c_6
      refine lv_iload_n hx hb dX4_figure_49 rfl (lv_at hl 0 rfl) ?_
      refine lv_iload_n hx hb dX4_figure_50 rfl (lv_at hl 3 rfl) ?_
      refine lv_icmp_ne (tgt := 80) hx hb dX4_figure_51 (by decide) (fun c_8 => ?_) (fun c_8 => ?_)
      · have tc_8 := b_ne (show ((-9) : Int32).toInt = -9 by decide) rfl c_8
        refine lv_aload_n hx hb dX4_figure_80 rfl (lv_at hl 1 rfl) ?_
        refine lv_dup hx hb dX4_figure_81 rfl ?_
        refine va_get (D := D) (ci := 4) (v := .int yat) (C := RX4) (T := TX4) (N := 30) hx hb hts iX4 hown hK hP 0 rfl rfl 14 (by decide) (hts (.fieldLink RX4 84 "PunchedTicketModel" "at" "I") (List.mem_of_getElem? (i := 2) rfl)) (fun _ h9 => h9) rfl dX4_figure_82 ?_
        refine lv_iconst (v := 1) hx hb dX4_figure_85 (by decide) ?_
        refine lv_iadd hx hb dX4_figure_86 ?_
        refine lv_topi (fun v_9 ev_9 => ?_)
        have tv_9 : v_9.toInt = yat.toInt + (1 : Int) := by rw [ev_9]; exact ti_add (x := yat) (y := 1) (show -2147483648 ≤ yat.toInt + (1 : Int) by omega) (show yat.toInt + (1 : Int) < 2147483648 by omega)
        refine va_put (D := D) (ci := 4) (v := .int v_9) (ty := .int) (C := RX4) (T := TX4) (N := 30) hx hb hts iX4 tyX4 tyX4_ok nmX4 hown hK hP hD hS 0 rfl rfl 14 (by decide) (hts (.fieldLink RX4 84 "PunchedTicketModel" "at" "I") (List.mem_of_getElem? (i := 2) rfl)) (fun _ h9 => h9) rfl (by decide +kernel) rfl rfl (Nat.le_of_ble_eq_true rfl) dX4_figure_87 (fun H locs hP hD hS => ?_)
        have hP : va_P D vwCl [(h0, .inr (4, [.int ype, .int ytk, .ref ywi, .ref yki, .ref yse, .ref yno, .ref yrh, .ref yrw, .ref yrk, .ref yrt, .int yrp, .int yrq, .ref ytx, .int yle, .int v_9, .int yfa, .ref yby, .ref ylo, .ref yhi, .int yac, .int ynx, .ref yro, .ref ygl, .int ysn, .ref yso, .ref ysp, .ref ysw, .long ysd, .ref yik, .ref ykp])), (ytx, .inl (cI, 64, .inl Ftx))] H := hP
        have hD : va_D A [(h0, .inr (4, [.int ype, .int ytk, .ref ywi, .ref yki, .ref yse, .ref yno, .ref yrh, .ref yrw, .ref yrk, .ref yrt, .int yrp, .int yrq, .ref ytx, .int yle, .int v_9, .int yfa, .ref yby, .ref ylo, .ref yhi, .int yac, .int ynx, .ref yro, .ref ygl, .int ysn, .ref yso, .ref ysp, .ref ysw, .long ysd, .ref yik, .ref ykp])), (ytx, .inl (cI, 64, .inl Ftx))] := hD
        refine lv_iload_n hx hb dX4_figure_90 rfl (lv_at hl 0 rfl) ?_
        exact ret_i (post := (fun (r : Int32) (u : Int32 × Int32) => 0 ≤ u.1.toInt ∧ u.1.toInt ≤ 64 ∧ yat.toInt ≤ u.1.toInt ∧ -9 ≤ u.2.toInt ∧ u.2.toInt ≤ 64 ∧ yfa.toInt ≤ u.2.toInt)) (W1 := (fun u => [(h0, .inr (4, [.int ype, .int ytk, .ref ywi, .ref yki, .ref yse, .ref yno, .ref yrh, .ref yrw, .ref yrk, .ref yrt, .int yrp, .int yrq, .ref ytx, .int yle, .int u.1, .int u.2, .ref yby, .ref ylo, .ref yhi, .int yac, .int ynx, .ref yro, .ref ygl, .int ysn, .ref yso, .ref ysp, .ref ysw, .long ysd, .ref yik, .ref ykp])), (ytx, .inl (cI, 64, .inl Ftx))])) (v_9, yfa) hx hb hr hlocks rfl hQ hK hP hD hS ⟨by decide, by decide⟩ dX4_figure_91 (show 0 ≤ v_9.toInt ∧ v_9.toInt ≤ 64 ∧ yat.toInt ≤ v_9.toInt ∧ -9 ≤ yfa.toInt ∧ yfa.toInt ≤ 64 ∧ yfa.toInt ≤ yfa.toInt by omega)
      · have tc_8 := b_eq (show ((-9) : Int32).toInt = -9 by decide) rfl c_8
        refine lv_aload_n hx hb dX4_figure_54 rfl (lv_at hl 1 rfl) ?_
        refine lv_aload_n hx hb dX4_figure_55 rfl (lv_at hl 1 rfl) ?_
        refine va_get (D := D) (ci := 4) (v := .int yfa) (C := RX4) (T := TX4) (N := 30) hx hb hts iX4 hown hK hP 0 rfl rfl 15 (by decide) (hts (.fieldLink RX4 81 "PunchedTicketModel" "faultAt" "I") (List.mem_of_getElem? (i := 1) rfl)) (fun _ h9 => h9) rfl dX4_figure_56 ?_
        refine lv_bipush (v := (-9)) hx hb dX4_figure_59 (by decide) ?_
        refine lv_icmp_ne (tgt := 71) hx hb dX4_figure_61 (by decide) (fun c_10 => ?_) (fun c_10 => ?_)
        · have tc_10 := b_ne rfl (show ((-9) : Int32).toInt = -9 by decide) c_10
          refine lv_aload_n hx hb dX4_figure_71 rfl (lv_at hl 1 rfl) ?_
          refine va_get (D := D) (ci := 4) (v := .int yfa) (C := RX4) (T := TX4) (N := 30) hx hb hts iX4 hown hK hP 0 rfl rfl 15 (by decide) (hts (.fieldLink RX4 81 "PunchedTicketModel" "faultAt" "I") (List.mem_of_getElem? (i := 1) rfl)) (fun _ h9 => h9) rfl dX4_figure_72 ?_
          refine va_put (D := D) (ci := 4) (v := .int yfa) (ty := .int) (C := RX4) (T := TX4) (N := 30) hx hb hts iX4 tyX4 tyX4_ok nmX4 hown hK hP hD hS 0 rfl rfl 15 (by decide) (hts (.fieldLink RX4 81 "PunchedTicketModel" "faultAt" "I") (List.mem_of_getElem? (i := 1) rfl)) (fun _ h9 => h9) rfl (by decide +kernel) rfl rfl (Nat.le_of_ble_eq_true rfl) dX4_figure_75 (fun H locs hP hD hS => ?_)
          have hP : va_P D vwCl [(h0, .inr (4, [.int ype, .int ytk, .ref ywi, .ref yki, .ref yse, .ref yno, .ref yrh, .ref yrw, .ref yrk, .ref yrt, .int yrp, .int yrq, .ref ytx, .int yle, .int yat, .int yfa, .ref yby, .ref ylo, .ref yhi, .int yac, .int ynx, .ref yro, .ref ygl, .int ysn, .ref yso, .ref ysp, .ref ysw, .long ysd, .ref yik, .ref ykp])), (ytx, .inl (cI, 64, .inl Ftx))] H := hP
          have hD : va_D A [(h0, .inr (4, [.int ype, .int ytk, .ref ywi, .ref yki, .ref yse, .ref yno, .ref yrh, .ref yrw, .ref yrk, .ref yrt, .int yrp, .int yrq, .ref ytx, .int yle, .int yat, .int yfa, .ref yby, .ref ylo, .ref yhi, .int yac, .int ynx, .ref yro, .ref ygl, .int ysn, .ref yso, .ref ysp, .ref ysw, .long ysd, .ref yik, .ref ykp])), (ytx, .inl (cI, 64, .inl Ftx))] := hD
          refine lv_iconst (v := 0) hx hb dX4_figure_78 (by decide) ?_
          exact ret_i (post := (fun (r : Int32) (u : Int32 × Int32) => 0 ≤ u.1.toInt ∧ u.1.toInt ≤ 64 ∧ yat.toInt ≤ u.1.toInt ∧ -9 ≤ u.2.toInt ∧ u.2.toInt ≤ 64 ∧ yfa.toInt ≤ u.2.toInt)) (W1 := (fun u => [(h0, .inr (4, [.int ype, .int ytk, .ref ywi, .ref yki, .ref yse, .ref yno, .ref yrh, .ref yrw, .ref yrk, .ref yrt, .int yrp, .int yrq, .ref ytx, .int yle, .int u.1, .int u.2, .ref yby, .ref ylo, .ref yhi, .int yac, .int ynx, .ref yro, .ref ygl, .int ysn, .ref yso, .ref ysp, .ref ysw, .long ysd, .ref yik, .ref ykp])), (ytx, .inl (cI, 64, .inl Ftx))])) (yat, yfa) hx hb hr hlocks rfl hQ hK hP hD hS ⟨by decide, by decide⟩ dX4_figure_79 (show 0 ≤ yat.toInt ∧ yat.toInt ≤ 64 ∧ yat.toInt ≤ yat.toInt ∧ -9 ≤ yfa.toInt ∧ yfa.toInt ≤ 64 ∧ yfa.toInt ≤ yfa.toInt by omega)
        · have tc_10 := b_eq rfl (show ((-9) : Int32).toInt = -9 by decide) c_10
          exfalso; omega
  · have tc_1 := b_eq rfl (show ((-9) : Int32).toInt = -9 by decide) c_1
    refine lv_aload_n hx hb dX4_figure_9 rfl (lv_at hl 0 rfl) ?_
    refine va_get (D := D) (ci := 4) (v := .int yat) (C := RX4) (T := TX4) (N := 30) hx hb hts iX4 hown hK hP 0 rfl rfl 14 (by decide) (hts (.fieldLink RX4 84 "PunchedTicketModel" "at" "I") (List.mem_of_getElem? (i := 2) rfl)) (fun _ h9 => h9) rfl dX4_figure_10 ?_
    refine lv_aload_n hx hb dX4_figure_13 rfl (lv_at hl 0 rfl) ?_
    refine va_get (D := D) (ci := 4) (v := .int yle) (C := RX4) (T := TX4) (N := 30) hx hb hts iX4 hown hK hP 0 rfl rfl 13 (by decide) (hts (.fieldLink RX4 78 "PunchedTicketModel" "length" "I") (List.mem_of_getElem? (i := 3) rfl)) (fun _ h9 => h9) rfl dX4_figure_14 ?_
    refine lv_icmp_ge (tgt := 35) hx hb dX4_figure_17 (by decide) (fun c_11 => ?_) (fun c_11 => ?_)
    · have tc_11 := b_le rfl rfl c_11
      refine lv_bipush (v := (-9)) hx hb dX4_figure_35 (by decide) ?_
      refine lv_istore_n (lv' := [(3, .int (-9)), (0, .ref h0), (1, .int n), (2, .int k)]) hx hb dX4_figure_37 rfl hl (by decide) rfl (fun ls hl => ?_)
      refine lv_iload_n hx hb dX4_figure_38 rfl (lv_at hl 0 rfl) ?_
      refine lv_i2l (v := (-9)) hx hb dX4_figure_39 (by decide) ?_
      refine lv_lconst (v := 0) hx hb dX4_figure_40 (by decide) ?_
      refine lv_iload_n hx hb dX4_figure_41 rfl (lv_at hl 2 rfl) ?_
      obtain ⟨w_12, ew_12⟩ : ∃ z : Int64, n.toInt64 = z := ⟨_, rfl⟩
      have tw_12 : w_12.toInt = n.toInt := by rw [← ew_12, Int32.toInt_toInt64]
      refine lv_i2l hx hb dX4_figure_42 ew_12 ?_
      refine cS_i (As := [.long (-9), .long 0, .long w_12]) (rest := []) ⟨hx, hb, hml, hown, hts⟩ (c_X4_in l D cI cZ cM (-9) 0 w_12 _ ) (va_cwS 3 hts gX4_figure_X4_in rfl rfl rfl (by decide +kernel) ⟨by rw [hR]; decide, by rw [hR]; decide⟩) hK hP hD hS hA [] [0, 1] rfl rfl (by decide) (by decide) (by decide) hl.1 rfl rfl (Nat.le_of_ble_eq_true rfl) dX4_figure_43 ⟨by rw [hR]; decide, by rw [hR]; decide⟩ (fun r_13 u_14 H locs hw hP hD hS => ?_)
      have hP : va_P D vwCl [(h0, .inr (4, [.int ype, .int ytk, .ref ywi, .ref yki, .ref yse, .ref yno, .ref yrh, .ref yrw, .ref yrk, .ref yrt, .int yrp, .int yrq, .ref ytx, .int yle, .int yat, .int yfa, .ref yby, .ref ylo, .ref yhi, .int yac, .int ynx, .ref yro, .ref ygl, .int ysn, .ref yso, .ref ysp, .ref ysw, .long ysd, .ref yik, .ref ykp])), (ytx, .inl (cI, 64, .inl Ftx))] H := hP.sub [0, 1] rfl
      have hD : va_D A [(h0, .inr (4, [.int ype, .int ytk, .ref ywi, .ref yki, .ref yse, .ref yno, .ref yrh, .ref yrw, .ref yrk, .ref yrt, .int yrp, .int yrq, .ref ytx, .int yle, .int yat, .int yfa, .ref yby, .ref ylo, .ref yhi, .int yac, .int ynx, .ref yro, .ref ygl, .int ysn, .ref yso, .ref ysp, .ref ysw, .long ysd, .ref yik, .ref ykp])), (ytx, .inl (cI, 64, .inl Ftx))] := hD.sub [0, 1] (by decide) rfl
      refine W.widen (k := 0) (n := 0) (Nat.le_refl _) (Nat.le_refl _) ?_
      have hw : (r_13.toInt = 1 ∧ (0 : Int) ≤ (-9 : Int) ∧ (-9 : Int) ≤ w_12.toInt) ∨ (r_13.toInt = 0 ∧ ((-9 : Int) < (0 : Int) ∨ w_12.toInt < (-9 : Int))) := hw
      have hw_15 := hw
      refine lv_if_eq (tgt := 54) hx hb dX4_figure_46 (by decide) (fun c_16 => ?_) (fun c_16 => ?_)
      · have tc_16 := b_eq rfl (show (0 : Int32).toInt = 0 by decide) c_16
        refine lv_aload_n hx hb dX4_figure_54 rfl (lv_at hl 1 rfl) ?_
        refine lv_aload_n hx hb dX4_figure_55 rfl (lv_at hl 1 rfl) ?_
        refine va_get (D := D) (ci := 4) (v := .int yfa) (C := RX4) (T := TX4) (N := 30) hx hb hts iX4 hown hK hP 0 rfl rfl 15 (by decide) (hts (.fieldLink RX4 81 "PunchedTicketModel" "faultAt" "I") (List.mem_of_getElem? (i := 1) rfl)) (fun _ h9 => h9) rfl dX4_figure_56 ?_
        refine lv_bipush (v := (-9)) hx hb dX4_figure_59 (by decide) ?_
        refine lv_icmp_ne (tgt := 71) hx hb dX4_figure_61 (by decide) (fun c_17 => ?_) (fun c_17 => ?_)
        · have tc_17 := b_ne rfl (show ((-9) : Int32).toInt = -9 by decide) c_17
          exfalso; omega
        · have tc_17 := b_eq rfl (show ((-9) : Int32).toInt = -9 by decide) c_17
          refine lv_aload_n hx hb dX4_figure_64 rfl (lv_at hl 1 rfl) ?_
          refine va_get (D := D) (ci := 4) (v := .int yat) (C := RX4) (T := TX4) (N := 30) hx hb hts iX4 hown hK hP 0 rfl rfl 14 (by decide) (hts (.fieldLink RX4 84 "PunchedTicketModel" "at" "I") (List.mem_of_getElem? (i := 2) rfl)) (fun _ h9 => h9) rfl dX4_figure_65 ?_
          refine lv_goto (tgt := 75) hx hb dX4_figure_68 (by decide) ?_
          refine va_put (D := D) (ci := 4) (v := .int yat) (ty := .int) (C := RX4) (T := TX4) (N := 30) hx hb hts iX4 tyX4 tyX4_ok nmX4 hown hK hP hD hS 0 rfl rfl 15 (by decide) (hts (.fieldLink RX4 81 "PunchedTicketModel" "faultAt" "I") (List.mem_of_getElem? (i := 1) rfl)) (fun _ h9 => h9) rfl (by decide +kernel) rfl rfl (Nat.le_of_ble_eq_true rfl) dX4_figure_75 (fun H locs hP hD hS => ?_)
          have hP : va_P D vwCl [(h0, .inr (4, [.int ype, .int ytk, .ref ywi, .ref yki, .ref yse, .ref yno, .ref yrh, .ref yrw, .ref yrk, .ref yrt, .int yrp, .int yrq, .ref ytx, .int yle, .int yat, .int yat, .ref yby, .ref ylo, .ref yhi, .int yac, .int ynx, .ref yro, .ref ygl, .int ysn, .ref yso, .ref ysp, .ref ysw, .long ysd, .ref yik, .ref ykp])), (ytx, .inl (cI, 64, .inl Ftx))] H := hP
          have hD : va_D A [(h0, .inr (4, [.int ype, .int ytk, .ref ywi, .ref yki, .ref yse, .ref yno, .ref yrh, .ref yrw, .ref yrk, .ref yrt, .int yrp, .int yrq, .ref ytx, .int yle, .int yat, .int yat, .ref yby, .ref ylo, .ref yhi, .int yac, .int ynx, .ref yro, .ref ygl, .int ysn, .ref yso, .ref ysp, .ref ysw, .long ysd, .ref yik, .ref ykp])), (ytx, .inl (cI, 64, .inl Ftx))] := hD
          refine lv_iconst (v := 0) hx hb dX4_figure_78 (by decide) ?_
          exact ret_i (post := (fun (r : Int32) (u : Int32 × Int32) => 0 ≤ u.1.toInt ∧ u.1.toInt ≤ 64 ∧ yat.toInt ≤ u.1.toInt ∧ -9 ≤ u.2.toInt ∧ u.2.toInt ≤ 64 ∧ yfa.toInt ≤ u.2.toInt)) (W1 := (fun u => [(h0, .inr (4, [.int ype, .int ytk, .ref ywi, .ref yki, .ref yse, .ref yno, .ref yrh, .ref yrw, .ref yrk, .ref yrt, .int yrp, .int yrq, .ref ytx, .int yle, .int u.1, .int u.2, .ref yby, .ref ylo, .ref yhi, .int yac, .int ynx, .ref yro, .ref ygl, .int ysn, .ref yso, .ref ysp, .ref ysw, .long ysd, .ref yik, .ref ykp])), (ytx, .inl (cI, 64, .inl Ftx))])) (yat, yat) hx hb hr hlocks rfl hQ hK hP hD hS ⟨by decide, by decide⟩ dX4_figure_79 (show 0 ≤ yat.toInt ∧ yat.toInt ≤ 64 ∧ yat.toInt ≤ yat.toInt ∧ -9 ≤ yat.toInt ∧ yat.toInt ≤ 64 ∧ yfa.toInt ≤ yat.toInt by omega)
      · have tc_16 := b_ne rfl (show (0 : Int32).toInt = 0 by decide) c_16
        refine lv_iload_n hx hb dX4_figure_49 rfl (lv_at hl 0 rfl) ?_
        refine lv_iload_n hx hb dX4_figure_50 rfl (lv_at hl 3 rfl) ?_
        refine lv_icmp_ne (tgt := 80) hx hb dX4_figure_51 (by decide) (fun c_18 => ?_) (fun c_18 => ?_)
        · have tc_18 := b_ne (show ((-9) : Int32).toInt = -9 by decide) rfl c_18
          refine lv_aload_n hx hb dX4_figure_80 rfl (lv_at hl 1 rfl) ?_
          refine lv_dup hx hb dX4_figure_81 rfl ?_
          refine va_get (D := D) (ci := 4) (v := .int yat) (C := RX4) (T := TX4) (N := 30) hx hb hts iX4 hown hK hP 0 rfl rfl 14 (by decide) (hts (.fieldLink RX4 84 "PunchedTicketModel" "at" "I") (List.mem_of_getElem? (i := 2) rfl)) (fun _ h9 => h9) rfl dX4_figure_82 ?_
          refine lv_iconst (v := 1) hx hb dX4_figure_85 (by decide) ?_
          refine lv_iadd hx hb dX4_figure_86 ?_
          refine lv_topi (fun v_19 ev_19 => ?_)
          have tv_19 : v_19.toInt = yat.toInt + (1 : Int) := by rw [ev_19]; exact ti_add (x := yat) (y := 1) (show -2147483648 ≤ yat.toInt + (1 : Int) by omega) (show yat.toInt + (1 : Int) < 2147483648 by omega)
          refine va_put (D := D) (ci := 4) (v := .int v_19) (ty := .int) (C := RX4) (T := TX4) (N := 30) hx hb hts iX4 tyX4 tyX4_ok nmX4 hown hK hP hD hS 0 rfl rfl 14 (by decide) (hts (.fieldLink RX4 84 "PunchedTicketModel" "at" "I") (List.mem_of_getElem? (i := 2) rfl)) (fun _ h9 => h9) rfl (by decide +kernel) rfl rfl (Nat.le_of_ble_eq_true rfl) dX4_figure_87 (fun H locs hP hD hS => ?_)
          have hP : va_P D vwCl [(h0, .inr (4, [.int ype, .int ytk, .ref ywi, .ref yki, .ref yse, .ref yno, .ref yrh, .ref yrw, .ref yrk, .ref yrt, .int yrp, .int yrq, .ref ytx, .int yle, .int v_19, .int yfa, .ref yby, .ref ylo, .ref yhi, .int yac, .int ynx, .ref yro, .ref ygl, .int ysn, .ref yso, .ref ysp, .ref ysw, .long ysd, .ref yik, .ref ykp])), (ytx, .inl (cI, 64, .inl Ftx))] H := hP
          have hD : va_D A [(h0, .inr (4, [.int ype, .int ytk, .ref ywi, .ref yki, .ref yse, .ref yno, .ref yrh, .ref yrw, .ref yrk, .ref yrt, .int yrp, .int yrq, .ref ytx, .int yle, .int v_19, .int yfa, .ref yby, .ref ylo, .ref yhi, .int yac, .int ynx, .ref yro, .ref ygl, .int ysn, .ref yso, .ref ysp, .ref ysw, .long ysd, .ref yik, .ref ykp])), (ytx, .inl (cI, 64, .inl Ftx))] := hD
          refine lv_iload_n hx hb dX4_figure_90 rfl (lv_at hl 0 rfl) ?_
          exact ret_i (post := (fun (r : Int32) (u : Int32 × Int32) => 0 ≤ u.1.toInt ∧ u.1.toInt ≤ 64 ∧ yat.toInt ≤ u.1.toInt ∧ -9 ≤ u.2.toInt ∧ u.2.toInt ≤ 64 ∧ yfa.toInt ≤ u.2.toInt)) (W1 := (fun u => [(h0, .inr (4, [.int ype, .int ytk, .ref ywi, .ref yki, .ref yse, .ref yno, .ref yrh, .ref yrw, .ref yrk, .ref yrt, .int yrp, .int yrq, .ref ytx, .int yle, .int u.1, .int u.2, .ref yby, .ref ylo, .ref yhi, .int yac, .int ynx, .ref yro, .ref ygl, .int ysn, .ref yso, .ref ysp, .ref ysw, .long ysd, .ref yik, .ref ykp])), (ytx, .inl (cI, 64, .inl Ftx))])) (v_19, yfa) hx hb hr hlocks rfl hQ hK hP hD hS ⟨by decide, by decide⟩ dX4_figure_91 (show 0 ≤ v_19.toInt ∧ v_19.toInt ≤ 64 ∧ yat.toInt ≤ v_19.toInt ∧ -9 ≤ yfa.toInt ∧ yfa.toInt ≤ 64 ∧ yfa.toInt ≤ yfa.toInt by omega)
        · have tc_18 := b_eq (show ((-9) : Int32).toInt = -9 by decide) rfl c_18
          refine lv_aload_n hx hb dX4_figure_54 rfl (lv_at hl 1 rfl) ?_
          refine lv_aload_n hx hb dX4_figure_55 rfl (lv_at hl 1 rfl) ?_
          refine va_get (D := D) (ci := 4) (v := .int yfa) (C := RX4) (T := TX4) (N := 30) hx hb hts iX4 hown hK hP 0 rfl rfl 15 (by decide) (hts (.fieldLink RX4 81 "PunchedTicketModel" "faultAt" "I") (List.mem_of_getElem? (i := 1) rfl)) (fun _ h9 => h9) rfl dX4_figure_56 ?_
          refine lv_bipush (v := (-9)) hx hb dX4_figure_59 (by decide) ?_
          refine lv_icmp_ne (tgt := 71) hx hb dX4_figure_61 (by decide) (fun c_20 => ?_) (fun c_20 => ?_)
          · have tc_20 := b_ne rfl (show ((-9) : Int32).toInt = -9 by decide) c_20
            exfalso; omega
          · have tc_20 := b_eq rfl (show ((-9) : Int32).toInt = -9 by decide) c_20
            refine lv_aload_n hx hb dX4_figure_64 rfl (lv_at hl 1 rfl) ?_
            refine va_get (D := D) (ci := 4) (v := .int yat) (C := RX4) (T := TX4) (N := 30) hx hb hts iX4 hown hK hP 0 rfl rfl 14 (by decide) (hts (.fieldLink RX4 84 "PunchedTicketModel" "at" "I") (List.mem_of_getElem? (i := 2) rfl)) (fun _ h9 => h9) rfl dX4_figure_65 ?_
            refine lv_goto (tgt := 75) hx hb dX4_figure_68 (by decide) ?_
            refine va_put (D := D) (ci := 4) (v := .int yat) (ty := .int) (C := RX4) (T := TX4) (N := 30) hx hb hts iX4 tyX4 tyX4_ok nmX4 hown hK hP hD hS 0 rfl rfl 15 (by decide) (hts (.fieldLink RX4 81 "PunchedTicketModel" "faultAt" "I") (List.mem_of_getElem? (i := 1) rfl)) (fun _ h9 => h9) rfl (by decide +kernel) rfl rfl (Nat.le_of_ble_eq_true rfl) dX4_figure_75 (fun H locs hP hD hS => ?_)
            have hP : va_P D vwCl [(h0, .inr (4, [.int ype, .int ytk, .ref ywi, .ref yki, .ref yse, .ref yno, .ref yrh, .ref yrw, .ref yrk, .ref yrt, .int yrp, .int yrq, .ref ytx, .int yle, .int yat, .int yat, .ref yby, .ref ylo, .ref yhi, .int yac, .int ynx, .ref yro, .ref ygl, .int ysn, .ref yso, .ref ysp, .ref ysw, .long ysd, .ref yik, .ref ykp])), (ytx, .inl (cI, 64, .inl Ftx))] H := hP
            have hD : va_D A [(h0, .inr (4, [.int ype, .int ytk, .ref ywi, .ref yki, .ref yse, .ref yno, .ref yrh, .ref yrw, .ref yrk, .ref yrt, .int yrp, .int yrq, .ref ytx, .int yle, .int yat, .int yat, .ref yby, .ref ylo, .ref yhi, .int yac, .int ynx, .ref yro, .ref ygl, .int ysn, .ref yso, .ref ysp, .ref ysw, .long ysd, .ref yik, .ref ykp])), (ytx, .inl (cI, 64, .inl Ftx))] := hD
            refine lv_iconst (v := 0) hx hb dX4_figure_78 (by decide) ?_
            exact ret_i (post := (fun (r : Int32) (u : Int32 × Int32) => 0 ≤ u.1.toInt ∧ u.1.toInt ≤ 64 ∧ yat.toInt ≤ u.1.toInt ∧ -9 ≤ u.2.toInt ∧ u.2.toInt ≤ 64 ∧ yfa.toInt ≤ u.2.toInt)) (W1 := (fun u => [(h0, .inr (4, [.int ype, .int ytk, .ref ywi, .ref yki, .ref yse, .ref yno, .ref yrh, .ref yrw, .ref yrk, .ref yrt, .int yrp, .int yrq, .ref ytx, .int yle, .int u.1, .int u.2, .ref yby, .ref ylo, .ref yhi, .int yac, .int ynx, .ref yro, .ref ygl, .int ysn, .ref yso, .ref ysp, .ref ysw, .long ysd, .ref yik, .ref ykp])), (ytx, .inl (cI, 64, .inl Ftx))])) (yat, yat) hx hb hr hlocks rfl hQ hK hP hD hS ⟨by decide, by decide⟩ dX4_figure_79 (show 0 ≤ yat.toInt ∧ yat.toInt ≤ 64 ∧ yat.toInt ≤ yat.toInt ∧ -9 ≤ yat.toInt ∧ yat.toInt ≤ 64 ∧ yfa.toInt ≤ yat.toInt by omega)
    · have tc_11 := b_nle rfl rfl c_11
      refine lv_aload_n hx hb dX4_figure_20 rfl (lv_at hl 0 rfl) ?_
      refine va_get (D := D) (ci := 4) (v := .ref ytx) (C := RX4) (T := TX4) (N := 30) hx hb hts iX4 hown hK hP 0 rfl rfl 12 (by decide) (hts (.fieldLink RX4 34 "PunchedTicketModel" "text" "[I") (List.mem_of_getElem? (i := 4) rfl)) (fun _ h9 => h9) rfl dX4_figure_21 ?_
      refine lv_aload_n hx hb dX4_figure_24 rfl (lv_at hl 0 rfl) ?_
      refine va_get (D := D) (ci := 4) (v := .int yat) (C := RX4) (T := TX4) (N := 30) hx hb hts iX4 hown hK hP 0 rfl rfl 14 (by decide) (hts (.fieldLink RX4 84 "PunchedTicketModel" "at" "I") (List.mem_of_getElem? (i := 2) rfl)) (fun _ h9 => h9) rfl dX4_figure_25 ?_
      refine va_iald hx hb hK hP 1 0 rfl rfl (vp_in_iff.mpr ⟨by omega, by omega⟩) dX4_figure_28 ?_
      refine lv_topi (fun v_21 ev_21 => ?_)
      refine lv_bipush (v := 48) hx hb dX4_figure_29 (by decide) ?_
      refine lv_isub hx hb dX4_figure_31 ?_
      refine lv_topi (fun v_22 ev_22 => ?_)
      refine lv_goto (tgt := 37) hx hb dX4_figure_32 (by decide) ?_
      refine lv_istore_n (lv' := [(3, .int v_22), (0, .ref h0), (1, .int n), (2, .int k)]) hx hb dX4_figure_37 rfl hl (by decide) rfl (fun ls hl => ?_)
      refine lv_iload_n hx hb dX4_figure_38 rfl (lv_at hl 0 rfl) ?_
      obtain ⟨w_23, ew_23⟩ : ∃ z : Int64, v_22.toInt64 = z := ⟨_, rfl⟩
      have tw_23 : w_23.toInt = v_22.toInt := by rw [← ew_23, Int32.toInt_toInt64]
      refine lv_i2l hx hb dX4_figure_39 ew_23 ?_
      refine lv_lconst (v := 0) hx hb dX4_figure_40 (by decide) ?_
      refine lv_iload_n hx hb dX4_figure_41 rfl (lv_at hl 2 rfl) ?_
      obtain ⟨w_24, ew_24⟩ : ∃ z : Int64, n.toInt64 = z := ⟨_, rfl⟩
      have tw_24 : w_24.toInt = n.toInt := by rw [← ew_24, Int32.toInt_toInt64]
      refine lv_i2l hx hb dX4_figure_42 ew_24 ?_
      refine cS_i (As := [.long w_23, .long 0, .long w_24]) (rest := []) ⟨hx, hb, hml, hown, hts⟩ (c_X4_in l D cI cZ cM w_23 0 w_24 _ ) (va_cwS 3 hts gX4_figure_X4_in rfl rfl rfl (by decide +kernel) ⟨by rw [hR]; decide, by rw [hR]; decide⟩) hK hP hD hS hA [] [0, 1] rfl rfl (by decide) (by decide) (by decide) hl.1 rfl rfl (Nat.le_of_ble_eq_true rfl) dX4_figure_43 ⟨by rw [hR]; decide, by rw [hR]; decide⟩ (fun r_25 u_26 H locs hw hP hD hS => ?_)
      have hP : va_P D vwCl [(h0, .inr (4, [.int ype, .int ytk, .ref ywi, .ref yki, .ref yse, .ref yno, .ref yrh, .ref yrw, .ref yrk, .ref yrt, .int yrp, .int yrq, .ref ytx, .int yle, .int yat, .int yfa, .ref yby, .ref ylo, .ref yhi, .int yac, .int ynx, .ref yro, .ref ygl, .int ysn, .ref yso, .ref ysp, .ref ysw, .long ysd, .ref yik, .ref ykp])), (ytx, .inl (cI, 64, .inl Ftx))] H := hP.sub [0, 1] rfl
      have hD : va_D A [(h0, .inr (4, [.int ype, .int ytk, .ref ywi, .ref yki, .ref yse, .ref yno, .ref yrh, .ref yrw, .ref yrk, .ref yrt, .int yrp, .int yrq, .ref ytx, .int yle, .int yat, .int yfa, .ref yby, .ref ylo, .ref yhi, .int yac, .int ynx, .ref yro, .ref ygl, .int ysn, .ref yso, .ref ysp, .ref ysw, .long ysd, .ref yik, .ref ykp])), (ytx, .inl (cI, 64, .inl Ftx))] := hD.sub [0, 1] (by decide) rfl
      refine W.widen (k := 0) (n := 0) (Nat.le_refl _) (Nat.le_refl _) ?_
      have hw : (r_25.toInt = 1 ∧ (0 : Int) ≤ w_23.toInt ∧ w_23.toInt ≤ w_24.toInt) ∨ (r_25.toInt = 0 ∧ (w_23.toInt < (0 : Int) ∨ w_24.toInt < w_23.toInt)) := hw
      have hw_27 := hw
      refine lv_if_eq (tgt := 54) hx hb dX4_figure_46 (by decide) (fun c_28 => ?_) (fun c_28 => ?_)
      · have tc_28 := b_eq rfl (show (0 : Int32).toInt = 0 by decide) c_28
        refine lv_aload_n hx hb dX4_figure_54 rfl (lv_at hl 1 rfl) ?_
        refine lv_aload_n hx hb dX4_figure_55 rfl (lv_at hl 1 rfl) ?_
        refine va_get (D := D) (ci := 4) (v := .int yfa) (C := RX4) (T := TX4) (N := 30) hx hb hts iX4 hown hK hP 0 rfl rfl 15 (by decide) (hts (.fieldLink RX4 81 "PunchedTicketModel" "faultAt" "I") (List.mem_of_getElem? (i := 1) rfl)) (fun _ h9 => h9) rfl dX4_figure_56 ?_
        refine lv_bipush (v := (-9)) hx hb dX4_figure_59 (by decide) ?_
        refine lv_icmp_ne (tgt := 71) hx hb dX4_figure_61 (by decide) (fun c_29 => ?_) (fun c_29 => ?_)
        · have tc_29 := b_ne rfl (show ((-9) : Int32).toInt = -9 by decide) c_29
          exfalso; omega
        · have tc_29 := b_eq rfl (show ((-9) : Int32).toInt = -9 by decide) c_29
          refine lv_aload_n hx hb dX4_figure_64 rfl (lv_at hl 1 rfl) ?_
          refine va_get (D := D) (ci := 4) (v := .int yat) (C := RX4) (T := TX4) (N := 30) hx hb hts iX4 hown hK hP 0 rfl rfl 14 (by decide) (hts (.fieldLink RX4 84 "PunchedTicketModel" "at" "I") (List.mem_of_getElem? (i := 2) rfl)) (fun _ h9 => h9) rfl dX4_figure_65 ?_
          refine lv_goto (tgt := 75) hx hb dX4_figure_68 (by decide) ?_
          refine va_put (D := D) (ci := 4) (v := .int yat) (ty := .int) (C := RX4) (T := TX4) (N := 30) hx hb hts iX4 tyX4 tyX4_ok nmX4 hown hK hP hD hS 0 rfl rfl 15 (by decide) (hts (.fieldLink RX4 81 "PunchedTicketModel" "faultAt" "I") (List.mem_of_getElem? (i := 1) rfl)) (fun _ h9 => h9) rfl (by decide +kernel) rfl rfl (Nat.le_of_ble_eq_true rfl) dX4_figure_75 (fun H locs hP hD hS => ?_)
          have hP : va_P D vwCl [(h0, .inr (4, [.int ype, .int ytk, .ref ywi, .ref yki, .ref yse, .ref yno, .ref yrh, .ref yrw, .ref yrk, .ref yrt, .int yrp, .int yrq, .ref ytx, .int yle, .int yat, .int yat, .ref yby, .ref ylo, .ref yhi, .int yac, .int ynx, .ref yro, .ref ygl, .int ysn, .ref yso, .ref ysp, .ref ysw, .long ysd, .ref yik, .ref ykp])), (ytx, .inl (cI, 64, .inl Ftx))] H := hP
          have hD : va_D A [(h0, .inr (4, [.int ype, .int ytk, .ref ywi, .ref yki, .ref yse, .ref yno, .ref yrh, .ref yrw, .ref yrk, .ref yrt, .int yrp, .int yrq, .ref ytx, .int yle, .int yat, .int yat, .ref yby, .ref ylo, .ref yhi, .int yac, .int ynx, .ref yro, .ref ygl, .int ysn, .ref yso, .ref ysp, .ref ysw, .long ysd, .ref yik, .ref ykp])), (ytx, .inl (cI, 64, .inl Ftx))] := hD
          refine lv_iconst (v := 0) hx hb dX4_figure_78 (by decide) ?_
          exact ret_i (post := (fun (r : Int32) (u : Int32 × Int32) => 0 ≤ u.1.toInt ∧ u.1.toInt ≤ 64 ∧ yat.toInt ≤ u.1.toInt ∧ -9 ≤ u.2.toInt ∧ u.2.toInt ≤ 64 ∧ yfa.toInt ≤ u.2.toInt)) (W1 := (fun u => [(h0, .inr (4, [.int ype, .int ytk, .ref ywi, .ref yki, .ref yse, .ref yno, .ref yrh, .ref yrw, .ref yrk, .ref yrt, .int yrp, .int yrq, .ref ytx, .int yle, .int u.1, .int u.2, .ref yby, .ref ylo, .ref yhi, .int yac, .int ynx, .ref yro, .ref ygl, .int ysn, .ref yso, .ref ysp, .ref ysw, .long ysd, .ref yik, .ref ykp])), (ytx, .inl (cI, 64, .inl Ftx))])) (yat, yat) hx hb hr hlocks rfl hQ hK hP hD hS ⟨by decide, by decide⟩ dX4_figure_79 (show 0 ≤ yat.toInt ∧ yat.toInt ≤ 64 ∧ yat.toInt ≤ yat.toInt ∧ -9 ≤ yat.toInt ∧ yat.toInt ≤ 64 ∧ yfa.toInt ≤ yat.toInt by omega)
      · have tc_28 := b_ne rfl (show (0 : Int32).toInt = 0 by decide) c_28
        refine lv_iload_n hx hb dX4_figure_49 rfl (lv_at hl 0 rfl) ?_
        refine lv_iload_n hx hb dX4_figure_50 rfl (lv_at hl 3 rfl) ?_
        refine lv_icmp_ne (tgt := 80) hx hb dX4_figure_51 (by decide) (fun c_30 => ?_) (fun c_30 => ?_)
        · have tc_30 := b_ne rfl rfl c_30
          refine lv_aload_n hx hb dX4_figure_80 rfl (lv_at hl 1 rfl) ?_
          refine lv_dup hx hb dX4_figure_81 rfl ?_
          refine va_get (D := D) (ci := 4) (v := .int yat) (C := RX4) (T := TX4) (N := 30) hx hb hts iX4 hown hK hP 0 rfl rfl 14 (by decide) (hts (.fieldLink RX4 84 "PunchedTicketModel" "at" "I") (List.mem_of_getElem? (i := 2) rfl)) (fun _ h9 => h9) rfl dX4_figure_82 ?_
          refine lv_iconst (v := 1) hx hb dX4_figure_85 (by decide) ?_
          refine lv_iadd hx hb dX4_figure_86 ?_
          refine lv_topi (fun v_31 ev_31 => ?_)
          have tv_31 : v_31.toInt = yat.toInt + (1 : Int) := by rw [ev_31]; exact ti_add (x := yat) (y := 1) (show -2147483648 ≤ yat.toInt + (1 : Int) by omega) (show yat.toInt + (1 : Int) < 2147483648 by omega)
          refine va_put (D := D) (ci := 4) (v := .int v_31) (ty := .int) (C := RX4) (T := TX4) (N := 30) hx hb hts iX4 tyX4 tyX4_ok nmX4 hown hK hP hD hS 0 rfl rfl 14 (by decide) (hts (.fieldLink RX4 84 "PunchedTicketModel" "at" "I") (List.mem_of_getElem? (i := 2) rfl)) (fun _ h9 => h9) rfl (by decide +kernel) rfl rfl (Nat.le_of_ble_eq_true rfl) dX4_figure_87 (fun H locs hP hD hS => ?_)
          have hP : va_P D vwCl [(h0, .inr (4, [.int ype, .int ytk, .ref ywi, .ref yki, .ref yse, .ref yno, .ref yrh, .ref yrw, .ref yrk, .ref yrt, .int yrp, .int yrq, .ref ytx, .int yle, .int v_31, .int yfa, .ref yby, .ref ylo, .ref yhi, .int yac, .int ynx, .ref yro, .ref ygl, .int ysn, .ref yso, .ref ysp, .ref ysw, .long ysd, .ref yik, .ref ykp])), (ytx, .inl (cI, 64, .inl Ftx))] H := hP
          have hD : va_D A [(h0, .inr (4, [.int ype, .int ytk, .ref ywi, .ref yki, .ref yse, .ref yno, .ref yrh, .ref yrw, .ref yrk, .ref yrt, .int yrp, .int yrq, .ref ytx, .int yle, .int v_31, .int yfa, .ref yby, .ref ylo, .ref yhi, .int yac, .int ynx, .ref yro, .ref ygl, .int ysn, .ref yso, .ref ysp, .ref ysw, .long ysd, .ref yik, .ref ykp])), (ytx, .inl (cI, 64, .inl Ftx))] := hD
          refine lv_iload_n hx hb dX4_figure_90 rfl (lv_at hl 0 rfl) ?_
          exact ret_i (post := (fun (r : Int32) (u : Int32 × Int32) => 0 ≤ u.1.toInt ∧ u.1.toInt ≤ 64 ∧ yat.toInt ≤ u.1.toInt ∧ -9 ≤ u.2.toInt ∧ u.2.toInt ≤ 64 ∧ yfa.toInt ≤ u.2.toInt)) (W1 := (fun u => [(h0, .inr (4, [.int ype, .int ytk, .ref ywi, .ref yki, .ref yse, .ref yno, .ref yrh, .ref yrw, .ref yrk, .ref yrt, .int yrp, .int yrq, .ref ytx, .int yle, .int u.1, .int u.2, .ref yby, .ref ylo, .ref yhi, .int yac, .int ynx, .ref yro, .ref ygl, .int ysn, .ref yso, .ref ysp, .ref ysw, .long ysd, .ref yik, .ref ykp])), (ytx, .inl (cI, 64, .inl Ftx))])) (v_31, yfa) hx hb hr hlocks rfl hQ hK hP hD hS ⟨by decide, by decide⟩ dX4_figure_91 (show 0 ≤ v_31.toInt ∧ v_31.toInt ≤ 64 ∧ yat.toInt ≤ v_31.toInt ∧ -9 ≤ yfa.toInt ∧ yfa.toInt ≤ 64 ∧ yfa.toInt ≤ yfa.toInt by omega)
        · have tc_30 := b_eq rfl rfl c_30
          refine lv_aload_n hx hb dX4_figure_54 rfl (lv_at hl 1 rfl) ?_
          refine lv_aload_n hx hb dX4_figure_55 rfl (lv_at hl 1 rfl) ?_
          refine va_get (D := D) (ci := 4) (v := .int yfa) (C := RX4) (T := TX4) (N := 30) hx hb hts iX4 hown hK hP 0 rfl rfl 15 (by decide) (hts (.fieldLink RX4 81 "PunchedTicketModel" "faultAt" "I") (List.mem_of_getElem? (i := 1) rfl)) (fun _ h9 => h9) rfl dX4_figure_56 ?_
          refine lv_bipush (v := (-9)) hx hb dX4_figure_59 (by decide) ?_
          refine lv_icmp_ne (tgt := 71) hx hb dX4_figure_61 (by decide) (fun c_32 => ?_) (fun c_32 => ?_)
          · have tc_32 := b_ne rfl (show ((-9) : Int32).toInt = -9 by decide) c_32
            exfalso; omega
          · have tc_32 := b_eq rfl (show ((-9) : Int32).toInt = -9 by decide) c_32
            refine lv_aload_n hx hb dX4_figure_64 rfl (lv_at hl 1 rfl) ?_
            refine va_get (D := D) (ci := 4) (v := .int yat) (C := RX4) (T := TX4) (N := 30) hx hb hts iX4 hown hK hP 0 rfl rfl 14 (by decide) (hts (.fieldLink RX4 84 "PunchedTicketModel" "at" "I") (List.mem_of_getElem? (i := 2) rfl)) (fun _ h9 => h9) rfl dX4_figure_65 ?_
            refine lv_goto (tgt := 75) hx hb dX4_figure_68 (by decide) ?_
            refine va_put (D := D) (ci := 4) (v := .int yat) (ty := .int) (C := RX4) (T := TX4) (N := 30) hx hb hts iX4 tyX4 tyX4_ok nmX4 hown hK hP hD hS 0 rfl rfl 15 (by decide) (hts (.fieldLink RX4 81 "PunchedTicketModel" "faultAt" "I") (List.mem_of_getElem? (i := 1) rfl)) (fun _ h9 => h9) rfl (by decide +kernel) rfl rfl (Nat.le_of_ble_eq_true rfl) dX4_figure_75 (fun H locs hP hD hS => ?_)
            have hP : va_P D vwCl [(h0, .inr (4, [.int ype, .int ytk, .ref ywi, .ref yki, .ref yse, .ref yno, .ref yrh, .ref yrw, .ref yrk, .ref yrt, .int yrp, .int yrq, .ref ytx, .int yle, .int yat, .int yat, .ref yby, .ref ylo, .ref yhi, .int yac, .int ynx, .ref yro, .ref ygl, .int ysn, .ref yso, .ref ysp, .ref ysw, .long ysd, .ref yik, .ref ykp])), (ytx, .inl (cI, 64, .inl Ftx))] H := hP
            have hD : va_D A [(h0, .inr (4, [.int ype, .int ytk, .ref ywi, .ref yki, .ref yse, .ref yno, .ref yrh, .ref yrw, .ref yrk, .ref yrt, .int yrp, .int yrq, .ref ytx, .int yle, .int yat, .int yat, .ref yby, .ref ylo, .ref yhi, .int yac, .int ynx, .ref yro, .ref ygl, .int ysn, .ref yso, .ref ysp, .ref ysw, .long ysd, .ref yik, .ref ykp])), (ytx, .inl (cI, 64, .inl Ftx))] := hD
            refine lv_iconst (v := 0) hx hb dX4_figure_78 (by decide) ?_
            exact ret_i (post := (fun (r : Int32) (u : Int32 × Int32) => 0 ≤ u.1.toInt ∧ u.1.toInt ≤ 64 ∧ yat.toInt ≤ u.1.toInt ∧ -9 ≤ u.2.toInt ∧ u.2.toInt ≤ 64 ∧ yfa.toInt ≤ u.2.toInt)) (W1 := (fun u => [(h0, .inr (4, [.int ype, .int ytk, .ref ywi, .ref yki, .ref yse, .ref yno, .ref yrh, .ref yrw, .ref yrk, .ref yrt, .int yrp, .int yrq, .ref ytx, .int yle, .int u.1, .int u.2, .ref yby, .ref ylo, .ref yhi, .int yac, .int ynx, .ref yro, .ref ygl, .int ysn, .ref yso, .ref ysp, .ref ysw, .long ysd, .ref yik, .ref ykp])), (ytx, .inl (cI, 64, .inl Ftx))])) (yat, yat) hx hb hr hlocks rfl hQ hK hP hD hS ⟨by decide, by decide⟩ dX4_figure_79 (show 0 ≤ yat.toInt ∧ yat.toInt ≤ 64 ∧ yat.toInt ≤ yat.toInt ∧ -9 ≤ yat.toInt ∧ yat.toInt ≤ 64 ∧ yfa.toInt ≤ yat.toInt by omega)

set_option maxHeartbeats 600000 in
set_option maxRecDepth 100000 in
theorem c_X4_readText (l : Launch) (D : va_G) (cI cZ cM : ClassId) (h0 : Nat) (ype : Int32) (ytk : Int32) (ywi : Nat) (yki : Nat) (yse : Nat) (yno : Nat) (yrh : Nat) (yrw : Nat) (yrk : Nat) (yrt : Nat) (yrp : Int32) (yrq : Int32) (ytx : Nat) (yle : Int32) (yat : Int32) (yfa : Int32) (yby : Nat) (ylo : Nat) (yhi : Nat) (yac : Int32) (ynx : Int32) (yro : Nat) (ygl : Nat) (ysn : Int32) (yso : Nat) (ysp : Nat) (ysw : Nat) (ysd : Int64) (yik : Nat) (ykp : Nat) (Ftx : Nat → Int32) (Frh : Nat → Int32) (Frw : Nat → Int32) (Frk : Nat → Int32) (Frt : Nat → Int32) (sz : Nat) (h_yle : 0 ≤ yle.toInt ∧ yle.toInt ≤ 64) : Ci l yX4_readText wsX4_readText ({ frames := 2, cells := 0, slots := 0, locals := 48 } : Room) D cI cZ cM [.ref h0] [(h0, .inr (4, [.int ype, .int ytk, .ref ywi, .ref yki, .ref yse, .ref yno, .ref yrh, .ref yrw, .ref yrk, .ref yrt, .int yrp, .int yrq, .ref ytx, .int yle, .int yat, .int yfa, .ref yby, .ref ylo, .ref yhi, .int yac, .int ynx, .ref yro, .ref ygl, .int ysn, .ref yso, .ref ysp, .ref ysw, .long ysd, .ref yik, .ref ykp])), (ytx, .inl (cI, 64, .inl Ftx)), (yrh, .inl (cI, 5, .inl Frh)), (yrw, .inl (cI, 5, .inl Frw)), (yrk, .inl (cI, 5, .inl Frk)), (yrt, .inl (cI, 30, .inl Frt))] sz (fun (r : Int32) (u : Int32 × Int32 × Int32 × Int32 × (Nat → Int32) × (Nat → Int32) × (Nat → Int32) × (Nat → Int32)) => 0 ≤ u.1.toInt ∧ u.1.toInt ≤ 5 ∧ 0 ≤ u.2.1.toInt ∧ u.2.1.toInt ≤ 6) (fun u => [(h0, .inr (4, [.int ype, .int ytk, .ref ywi, .ref yki, .ref yse, .ref yno, .ref yrh, .ref yrw, .ref yrk, .ref yrt, .int u.1, .int u.2.1, .ref ytx, .int yle, .int u.2.2.1, .int u.2.2.2.1, .ref yby, .ref ylo, .ref yhi, .int yac, .int ynx, .ref yro, .ref ygl, .int ysn, .ref yso, .ref ysp, .ref ysw, .long ysd, .ref yik, .ref ykp])), (ytx, .inl (cI, 64, .inl Ftx)), (yrh, .inl (cI, 5, .inl u.2.2.2.2.1)), (yrw, .inl (cI, 5, .inl u.2.2.2.2.2.1)), (yrk, .inl (cI, 5, .inl u.2.2.2.2.2.2.1)), (yrt, .inl (cI, 30, .inl u.2.2.2.2.2.2.2))]) 0 0 := by
  refine begins (l := l) (y := yX4_readText) (ws := wsX4_readText) (av := [.ref h0]) (Qc := fun A => va_Qi (fun (r : Int32) (u : Int32 × Int32 × Int32 × Int32 × (Nat → Int32) × (Nat → Int32) × (Nat → Int32) × (Nat → Int32)) => 0 ≤ u.1.toInt ∧ u.1.toInt ≤ 5 ∧ 0 ≤ u.2.1.toInt ∧ u.2.1.toInt ≤ 6) (fun u => Wd D cI cZ cM A ((fun u => [(h0, .inr (4, [.int ype, .int ytk, .ref ywi, .ref yki, .ref yse, .ref yno, .ref yrh, .ref yrw, .ref yrk, .ref yrt, .int u.1, .int u.2.1, .ref ytx, .int yle, .int u.2.2.1, .int u.2.2.2.1, .ref yby, .ref ylo, .ref yhi, .int yac, .int ynx, .ref yro, .ref ygl, .int ysn, .ref yso, .ref ysp, .ref ysw, .long ysd, .ref yik, .ref ykp])), (ytx, .inl (cI, 64, .inl Ftx)), (yrh, .inl (cI, 5, .inl u.2.2.2.2.1)), (yrw, .inl (cI, 5, .inl u.2.2.2.2.2.1)), (yrk, .inl (cI, 5, .inl u.2.2.2.2.2.2.1)), (yrt, .inl (cI, 30, .inl u.2.2.2.2.2.2.2))]) u)) A) cX4_readText 2 (some .int) (by decide) rfl (Nat.le_of_ble_eq_true rfl) ?_
  intro p e s m args below meth c R Q A ls hBd hR hQ hA hS hK hP hD hl
  obtain ⟨hx, hb, hr, hts, hown, hlocks, hin, hml⟩ := hBd
  have hl : lv_has ls 2 [(0, .ref h0)] := hl
  have iX4 : ∀ w ∈ wsX40, w ∈ wsX4_readText := fun _ h => List.mem_cons_of_mem _ (List.mem_append_right _ h)
  obtain ⟨h_ylea, h_yleb⟩ := h_yle
  refine lv_aload_n hx hb dX4_readText_0 rfl (lv_at hl 0 rfl) ?_
  refine lv_iconst (v := 0) hx hb dX4_readText_1 (by decide) ?_
  refine va_put (D := D) (ci := 4) (v := .int 0) (ty := .int) (C := RX4) (T := TX4) (N := 30) hx hb hts iX4 tyX4 tyX4_ok nmX4 hown hK hP hD hS 0 rfl rfl 14 (by decide) (hts (.fieldLink RX4 84 "PunchedTicketModel" "at" "I") (List.mem_of_getElem? (i := 1) rfl)) (fun _ h9 => h9) rfl (by decide +kernel) rfl rfl (Nat.le_of_ble_eq_true rfl) dX4_readText_2 (fun H locs hP hD hS => ?_)
  have hP : va_P D vwCl [(h0, .inr (4, [.int ype, .int ytk, .ref ywi, .ref yki, .ref yse, .ref yno, .ref yrh, .ref yrw, .ref yrk, .ref yrt, .int yrp, .int yrq, .ref ytx, .int yle, .int 0, .int yfa, .ref yby, .ref ylo, .ref yhi, .int yac, .int ynx, .ref yro, .ref ygl, .int ysn, .ref yso, .ref ysp, .ref ysw, .long ysd, .ref yik, .ref ykp])), (ytx, .inl (cI, 64, .inl Ftx)), (yrh, .inl (cI, 5, .inl Frh)), (yrw, .inl (cI, 5, .inl Frw)), (yrk, .inl (cI, 5, .inl Frk)), (yrt, .inl (cI, 30, .inl Frt))] H := hP
  have hD : va_D A [(h0, .inr (4, [.int ype, .int ytk, .ref ywi, .ref yki, .ref yse, .ref yno, .ref yrh, .ref yrw, .ref yrk, .ref yrt, .int yrp, .int yrq, .ref ytx, .int yle, .int 0, .int yfa, .ref yby, .ref ylo, .ref yhi, .int yac, .int ynx, .ref yro, .ref ygl, .int ysn, .ref yso, .ref ysp, .ref ysw, .long ysd, .ref yik, .ref ykp])), (ytx, .inl (cI, 64, .inl Ftx)), (yrh, .inl (cI, 5, .inl Frh)), (yrw, .inl (cI, 5, .inl Frw)), (yrk, .inl (cI, 5, .inl Frk)), (yrt, .inl (cI, 30, .inl Frt))] := hD
  refine lv_aload_n hx hb dX4_readText_5 rfl (lv_at hl 0 rfl) ?_
  refine lv_bipush (v := (-9)) hx hb dX4_readText_6 (by decide) ?_
  refine va_put (D := D) (ci := 4) (v := .int (-9)) (ty := .int) (C := RX4) (T := TX4) (N := 30) hx hb hts iX4 tyX4 tyX4_ok nmX4 hown hK hP hD hS 0 rfl rfl 15 (by decide) (hts (.fieldLink RX4 81 "PunchedTicketModel" "faultAt" "I") (List.mem_of_getElem? (i := 2) rfl)) (fun _ h9 => h9) rfl (by decide +kernel) rfl rfl (Nat.le_of_ble_eq_true rfl) dX4_readText_8 (fun H locs hP hD hS => ?_)
  have hP : va_P D vwCl [(h0, .inr (4, [.int ype, .int ytk, .ref ywi, .ref yki, .ref yse, .ref yno, .ref yrh, .ref yrw, .ref yrk, .ref yrt, .int yrp, .int yrq, .ref ytx, .int yle, .int 0, .int (-9), .ref yby, .ref ylo, .ref yhi, .int yac, .int ynx, .ref yro, .ref ygl, .int ysn, .ref yso, .ref ysp, .ref ysw, .long ysd, .ref yik, .ref ykp])), (ytx, .inl (cI, 64, .inl Ftx)), (yrh, .inl (cI, 5, .inl Frh)), (yrw, .inl (cI, 5, .inl Frw)), (yrk, .inl (cI, 5, .inl Frk)), (yrt, .inl (cI, 30, .inl Frt))] H := hP
  have hD : va_D A [(h0, .inr (4, [.int ype, .int ytk, .ref ywi, .ref yki, .ref yse, .ref yno, .ref yrh, .ref yrw, .ref yrk, .ref yrt, .int yrp, .int yrq, .ref ytx, .int yle, .int 0, .int (-9), .ref yby, .ref ylo, .ref yhi, .int yac, .int ynx, .ref yro, .ref ygl, .int ysn, .ref yso, .ref ysp, .ref ysw, .long ysd, .ref yik, .ref ykp])), (ytx, .inl (cI, 64, .inl Ftx)), (yrh, .inl (cI, 5, .inl Frh)), (yrw, .inl (cI, 5, .inl Frw)), (yrk, .inl (cI, 5, .inl Frk)), (yrt, .inl (cI, 30, .inl Frt))] := hD
  refine lv_aload_n hx hb dX4_readText_11 rfl (lv_at hl 0 rfl) ?_
  refine lv_iconst (v := 0) hx hb dX4_readText_12 (by decide) ?_
  refine va_put (D := D) (ci := 4) (v := .int 0) (ty := .int) (C := RX4) (T := TX4) (N := 30) hx hb hts iX4 tyX4 tyX4_ok nmX4 hown hK hP hD hS 0 rfl rfl 10 (by decide) (hts (.fieldLink RX4 87 "PunchedTicketModel" "readPeople" "I") (List.mem_of_getElem? (i := 3) rfl)) (fun _ h9 => h9) rfl (by decide +kernel) rfl rfl (Nat.le_of_ble_eq_true rfl) dX4_readText_13 (fun H locs hP hD hS => ?_)
  have hP : va_P D vwCl [(h0, .inr (4, [.int ype, .int ytk, .ref ywi, .ref yki, .ref yse, .ref yno, .ref yrh, .ref yrw, .ref yrk, .ref yrt, .int 0, .int yrq, .ref ytx, .int yle, .int 0, .int (-9), .ref yby, .ref ylo, .ref yhi, .int yac, .int ynx, .ref yro, .ref ygl, .int ysn, .ref yso, .ref ysp, .ref ysw, .long ysd, .ref yik, .ref ykp])), (ytx, .inl (cI, 64, .inl Ftx)), (yrh, .inl (cI, 5, .inl Frh)), (yrw, .inl (cI, 5, .inl Frw)), (yrk, .inl (cI, 5, .inl Frk)), (yrt, .inl (cI, 30, .inl Frt))] H := hP
  have hD : va_D A [(h0, .inr (4, [.int ype, .int ytk, .ref ywi, .ref yki, .ref yse, .ref yno, .ref yrh, .ref yrw, .ref yrk, .ref yrt, .int 0, .int yrq, .ref ytx, .int yle, .int 0, .int (-9), .ref yby, .ref ylo, .ref yhi, .int yac, .int ynx, .ref yro, .ref ygl, .int ysn, .ref yso, .ref ysp, .ref ysw, .long ysd, .ref yik, .ref ykp])), (ytx, .inl (cI, 64, .inl Ftx)), (yrh, .inl (cI, 5, .inl Frh)), (yrw, .inl (cI, 5, .inl Frw)), (yrk, .inl (cI, 5, .inl Frk)), (yrt, .inl (cI, 30, .inl Frt))] := hD
  refine lv_aload_n hx hb dX4_readText_16 rfl (lv_at hl 0 rfl) ?_
  refine lv_iconst (v := 0) hx hb dX4_readText_17 (by decide) ?_
  refine va_put (D := D) (ci := 4) (v := .int 0) (ty := .int) (C := RX4) (T := TX4) (N := 30) hx hb hts iX4 tyX4 tyX4_ok nmX4 hown hK hP hD hS 0 rfl rfl 11 (by decide) (hts (.fieldLink RX4 90 "PunchedTicketModel" "readTickets" "I") (List.mem_of_getElem? (i := 4) rfl)) (fun _ h9 => h9) rfl (by decide +kernel) rfl rfl (Nat.le_of_ble_eq_true rfl) dX4_readText_18 (fun H locs hP hD hS => ?_)
  have hP : va_P D vwCl [(h0, .inr (4, [.int ype, .int ytk, .ref ywi, .ref yki, .ref yse, .ref yno, .ref yrh, .ref yrw, .ref yrk, .ref yrt, .int 0, .int 0, .ref ytx, .int yle, .int 0, .int (-9), .ref yby, .ref ylo, .ref yhi, .int yac, .int ynx, .ref yro, .ref ygl, .int ysn, .ref yso, .ref ysp, .ref ysw, .long ysd, .ref yik, .ref ykp])), (ytx, .inl (cI, 64, .inl Ftx)), (yrh, .inl (cI, 5, .inl Frh)), (yrw, .inl (cI, 5, .inl Frw)), (yrk, .inl (cI, 5, .inl Frk)), (yrt, .inl (cI, 30, .inl Frt))] H := hP
  have hD : va_D A [(h0, .inr (4, [.int ype, .int ytk, .ref ywi, .ref yki, .ref yse, .ref yno, .ref yrh, .ref yrw, .ref yrk, .ref yrt, .int 0, .int 0, .ref ytx, .int yle, .int 0, .int (-9), .ref yby, .ref ylo, .ref yhi, .int yac, .int ynx, .ref yro, .ref ygl, .int ysn, .ref yso, .ref ysp, .ref ysw, .long ysd, .ref yik, .ref ykp])), (ytx, .inl (cI, 64, .inl Ftx)), (yrh, .inl (cI, 5, .inl Frh)), (yrw, .inl (cI, 5, .inl Frw)), (yrk, .inl (cI, 5, .inl Frk)), (yrt, .inl (cI, 30, .inl Frt))] := hD
  refine lv_aload_n hx hb dX4_readText_21 rfl (lv_at hl 0 rfl) ?_
  refine va_get (D := D) (ci := 4) (v := .int yle) (C := RX4) (T := TX4) (N := 30) hx hb hts iX4 hown hK hP 0 rfl rfl 13 (by decide) (hts (.fieldLink RX4 78 "PunchedTicketModel" "length" "I") (List.mem_of_getElem? (i := 5) rfl)) (fun _ h9 => h9) rfl dX4_readText_22 ?_
  refine lv_if_eq (tgt := 39) hx hb dX4_readText_25 (by decide) (fun c_1 => ?_) (fun c_1 => ?_)
  · have tc_1 := b_eq rfl (show (0 : Int32).toInt = 0 by decide) c_1
    refine lv_iconst (v := 0) hx hb dX4_readText_39 (by decide) ?_
    exact ret_i (post := (fun (r : Int32) (u : Int32 × Int32 × Int32 × Int32 × (Nat → Int32) × (Nat → Int32) × (Nat → Int32) × (Nat → Int32)) => 0 ≤ u.1.toInt ∧ u.1.toInt ≤ 5 ∧ 0 ≤ u.2.1.toInt ∧ u.2.1.toInt ≤ 6)) (W1 := (fun u => [(h0, .inr (4, [.int ype, .int ytk, .ref ywi, .ref yki, .ref yse, .ref yno, .ref yrh, .ref yrw, .ref yrk, .ref yrt, .int u.1, .int u.2.1, .ref ytx, .int yle, .int u.2.2.1, .int u.2.2.2.1, .ref yby, .ref ylo, .ref yhi, .int yac, .int ynx, .ref yro, .ref ygl, .int ysn, .ref yso, .ref ysp, .ref ysw, .long ysd, .ref yik, .ref ykp])), (ytx, .inl (cI, 64, .inl Ftx)), (yrh, .inl (cI, 5, .inl u.2.2.2.2.1)), (yrw, .inl (cI, 5, .inl u.2.2.2.2.2.1)), (yrk, .inl (cI, 5, .inl u.2.2.2.2.2.2.1)), (yrt, .inl (cI, 30, .inl u.2.2.2.2.2.2.2))])) (0, 0, 0, (-9), Frh, Frw, Frk, Frt) hx hb hr hlocks rfl hQ hK hP hD hS ⟨by decide, by decide⟩ dX4_readText_40 (show 0 ≤ (0 : Int) ∧ (0 : Int) ≤ 5 ∧ 0 ≤ (0 : Int) ∧ (0 : Int) ≤ 6 by omega)
  · have tc_1 := b_ne rfl (show (0 : Int32).toInt = 0 by decide) c_1
    refine lv_aload_n hx hb dX4_readText_28 rfl (lv_at hl 0 rfl) ?_
    refine va_get (D := D) (ci := 4) (v := .ref ytx) (C := RX4) (T := TX4) (N := 30) hx hb hts iX4 hown hK hP 0 rfl rfl 12 (by decide) (hts (.fieldLink RX4 34 "PunchedTicketModel" "text" "[I") (List.mem_of_getElem? (i := 6) rfl)) (fun _ h9 => h9) rfl dX4_readText_29 ?_
    refine lv_iconst (v := 0) hx hb dX4_readText_32 (by decide) ?_
    refine va_iald hx hb hK hP 1 0 rfl rfl (vp_in_iff.mpr (by decide)) dX4_readText_33 ?_
    refine lv_topi (fun v_2 ev_2 => ?_)
    refine lv_bipush (v := 76) hx hb dX4_readText_34 (by decide) ?_
    refine lv_icmp_eq (tgt := 41) hx hb dX4_readText_36 (by decide) (fun c_3 => ?_) (fun c_3 => ?_)
    · have tc_3 := b_eq rfl (show (76 : Int32).toInt = 76 by decide) c_3
      refine lv_aload_n hx hb dX4_readText_41 rfl (lv_at hl 0 rfl) ?_
      refine lv_iconst (v := 1) hx hb dX4_readText_42 (by decide) ?_
      refine va_put (D := D) (ci := 4) (v := .int 1) (ty := .int) (C := RX4) (T := TX4) (N := 30) hx hb hts iX4 tyX4 tyX4_ok nmX4 hown hK hP hD hS 0 rfl rfl 14 (by decide) (hts (.fieldLink RX4 84 "PunchedTicketModel" "at" "I") (List.mem_of_getElem? (i := 1) rfl)) (fun _ h9 => h9) rfl (by decide +kernel) rfl rfl (Nat.le_of_ble_eq_true rfl) dX4_readText_43 (fun H locs hP hD hS => ?_)
      have hP : va_P D vwCl [(h0, .inr (4, [.int ype, .int ytk, .ref ywi, .ref yki, .ref yse, .ref yno, .ref yrh, .ref yrw, .ref yrk, .ref yrt, .int 0, .int 0, .ref ytx, .int yle, .int 1, .int (-9), .ref yby, .ref ylo, .ref yhi, .int yac, .int ynx, .ref yro, .ref ygl, .int ysn, .ref yso, .ref ysp, .ref ysw, .long ysd, .ref yik, .ref ykp])), (ytx, .inl (cI, 64, .inl Ftx)), (yrh, .inl (cI, 5, .inl Frh)), (yrw, .inl (cI, 5, .inl Frw)), (yrk, .inl (cI, 5, .inl Frk)), (yrt, .inl (cI, 30, .inl Frt))] H := hP
      have hD : va_D A [(h0, .inr (4, [.int ype, .int ytk, .ref ywi, .ref yki, .ref yse, .ref yno, .ref yrh, .ref yrw, .ref yrk, .ref yrt, .int 0, .int 0, .ref ytx, .int yle, .int 1, .int (-9), .ref yby, .ref ylo, .ref yhi, .int yac, .int ynx, .ref yro, .ref ygl, .int ysn, .ref yso, .ref ysp, .ref ysw, .long ysd, .ref yik, .ref ykp])), (ytx, .inl (cI, 64, .inl Ftx)), (yrh, .inl (cI, 5, .inl Frh)), (yrw, .inl (cI, 5, .inl Frw)), (yrk, .inl (cI, 5, .inl Frk)), (yrt, .inl (cI, 30, .inl Frt))] := hD
      have LOOP_4 : ∀ (fu_4 : Nat) (np : Int32) (nq : Int32) (na : Int32) (nf : Int32) (grh : Nat → Int32) (grw : Nat → Int32) (grk : Nat → Int32) (grt : Nat → Int32) (H : Heap) (locs : List Loc) (ls : Array Slot), (200 * (65 - na.toInt) + (64 - nf.toInt)).toNat < fu_4 → (0 ≤ np.toInt ∧ np.toInt ≤ 5) → (0 ≤ nq.toInt ∧ nq.toInt ≤ 6) → (1 ≤ na.toInt ∧ na.toInt ≤ 64) → (-9 ≤ nf.toInt ∧ nf.toInt ≤ 64) → va_P D vwCl [(h0, .inr (4, [.int ype, .int ytk, .ref ywi, .ref yki, .ref yse, .ref yno, .ref yrh, .ref yrw, .ref yrk, .ref yrt, .int np, .int nq, .ref ytx, .int yle, .int na, .int nf, .ref yby, .ref ylo, .ref yhi, .int yac, .int ynx, .ref yro, .ref ygl, .int ysn, .ref yso, .ref ysp, .ref ysw, .long ysd, .ref yik, .ref ykp])), (ytx, .inl (cI, 64, .inl Ftx)), (yrh, .inl (cI, 5, .inl grh)), (yrw, .inl (cI, 5, .inl grw)), (yrk, .inl (cI, 5, .inl grk)), (yrt, .inl (cI, 30, .inl grt))] H → va_D A [(h0, .inr (4, [.int ype, .int ytk, .ref ywi, .ref yki, .ref yse, .ref yno, .ref yrh, .ref yrw, .ref yrk, .ref yrt, .int np, .int nq, .ref ytx, .int yle, .int na, .int nf, .ref yby, .ref ylo, .ref yhi, .int yac, .int ynx, .ref yro, .ref ygl, .int ysn, .ref yso, .ref ysp, .ref ysw, .long ysd, .ref yik, .ref ykp])), (ytx, .inl (cI, 64, .inl Ftx)), (yrh, .inl (cI, 5, .inl grh)), (yrw, .inl (cI, 5, .inl grw)), (yrk, .inl (cI, 5, .inl grk)), (yrt, .inl (cI, 30, .inl grt))] → va_S A s.heap H locs → lv_has ls 2 [(0, .ref h0)] → W p l e R s m args below meth c H locs 0 0 Q (F0 m 46 ls []) := by
        intro fu_4
        induction fu_4 with
        | zero => intro np nq na nf grh grw grk grt H locs ls hmu; exact absurd hmu (Nat.not_lt_zero _)
        | succ fu_4 ih =>
          intro np nq na nf grh grw grk grt H locs ls hmu h_np h_nq h_na h_nf hP hD hS hl
          obtain ⟨h_npa, h_npb⟩ := h_np
          obtain ⟨h_nqa, h_nqb⟩ := h_nq
          obtain ⟨h_naa, h_nab⟩ := h_na
          obtain ⟨h_nfa, h_nfb⟩ := h_nf
          have ih_5 := ih
          clear ih
          refine lv_aload_n hx hb dX4_readText_46 rfl (lv_at hl 0 rfl) ?_
          refine va_get (D := D) (ci := 4) (v := .int nf) (C := RX4) (T := TX4) (N := 30) hx hb hts iX4 hown hK hP 0 rfl rfl 15 (by decide) (hts (.fieldLink RX4 81 "PunchedTicketModel" "faultAt" "I") (List.mem_of_getElem? (i := 2) rfl)) (fun _ h9 => h9) rfl dX4_readText_47 ?_
          refine lv_bipush (v := (-9)) hx hb dX4_readText_50 (by decide) ?_
          refine lv_icmp_ne (tgt := 320) hx hb dX4_readText_52 (by decide) (fun c_6 => ?_) (fun c_6 => ?_)
          · have tc_6 := b_ne rfl (show ((-9) : Int32).toInt = -9 by decide) c_6
            refine lv_aload_n hx hb dX4_readText_320 rfl (lv_at hl 0 rfl) ?_
            refine va_get (D := D) (ci := 4) (v := .int nf) (C := RX4) (T := TX4) (N := 30) hx hb hts iX4 hown hK hP 0 rfl rfl 15 (by decide) (hts (.fieldLink RX4 81 "PunchedTicketModel" "faultAt" "I") (List.mem_of_getElem? (i := 2) rfl)) (fun _ h9 => h9) rfl dX4_readText_321 ?_
            exact ret_i (post := (fun (r : Int32) (u : Int32 × Int32 × Int32 × Int32 × (Nat → Int32) × (Nat → Int32) × (Nat → Int32) × (Nat → Int32)) => 0 ≤ u.1.toInt ∧ u.1.toInt ≤ 5 ∧ 0 ≤ u.2.1.toInt ∧ u.2.1.toInt ≤ 6)) (W1 := (fun u => [(h0, .inr (4, [.int ype, .int ytk, .ref ywi, .ref yki, .ref yse, .ref yno, .ref yrh, .ref yrw, .ref yrk, .ref yrt, .int u.1, .int u.2.1, .ref ytx, .int yle, .int u.2.2.1, .int u.2.2.2.1, .ref yby, .ref ylo, .ref yhi, .int yac, .int ynx, .ref yro, .ref ygl, .int ysn, .ref yso, .ref ysp, .ref ysw, .long ysd, .ref yik, .ref ykp])), (ytx, .inl (cI, 64, .inl Ftx)), (yrh, .inl (cI, 5, .inl u.2.2.2.2.1)), (yrw, .inl (cI, 5, .inl u.2.2.2.2.2.1)), (yrk, .inl (cI, 5, .inl u.2.2.2.2.2.2.1)), (yrt, .inl (cI, 30, .inl u.2.2.2.2.2.2.2))])) (np, nq, na, nf, grh, grw, grk, grt) hx hb hr hlocks rfl hQ hK hP hD hS ⟨by decide, by decide⟩ dX4_readText_324 (show 0 ≤ np.toInt ∧ np.toInt ≤ 5 ∧ 0 ≤ nq.toInt ∧ nq.toInt ≤ 6 by omega)
          · have tc_6 := b_eq rfl (show ((-9) : Int32).toInt = -9 by decide) c_6
            refine lv_aload_n hx hb dX4_readText_55 rfl (lv_at hl 0 rfl) ?_
            refine va_get (D := D) (ci := 4) (v := .int na) (C := RX4) (T := TX4) (N := 30) hx hb hts iX4 hown hK hP 0 rfl rfl 14 (by decide) (hts (.fieldLink RX4 84 "PunchedTicketModel" "at" "I") (List.mem_of_getElem? (i := 1) rfl)) (fun _ h9 => h9) rfl dX4_readText_56 ?_
            refine lv_aload_n hx hb dX4_readText_59 rfl (lv_at hl 0 rfl) ?_
            refine va_get (D := D) (ci := 4) (v := .int yle) (C := RX4) (T := TX4) (N := 30) hx hb hts iX4 hown hK hP 0 rfl rfl 13 (by decide) (hts (.fieldLink RX4 78 "PunchedTicketModel" "length" "I") (List.mem_of_getElem? (i := 5) rfl)) (fun _ h9 => h9) rfl dX4_readText_60 ?_
            refine lv_icmp_ge (tgt := 320) hx hb dX4_readText_63 (by decide) (fun c_7 => ?_) (fun c_7 => ?_)
            · have tc_7 := b_le rfl rfl c_7
              refine lv_aload_n hx hb dX4_readText_320 rfl (lv_at hl 0 rfl) ?_
              refine va_get (D := D) (ci := 4) (v := .int nf) (C := RX4) (T := TX4) (N := 30) hx hb hts iX4 hown hK hP 0 rfl rfl 15 (by decide) (hts (.fieldLink RX4 81 "PunchedTicketModel" "faultAt" "I") (List.mem_of_getElem? (i := 2) rfl)) (fun _ h9 => h9) rfl dX4_readText_321 ?_
              exact ret_i (post := (fun (r : Int32) (u : Int32 × Int32 × Int32 × Int32 × (Nat → Int32) × (Nat → Int32) × (Nat → Int32) × (Nat → Int32)) => 0 ≤ u.1.toInt ∧ u.1.toInt ≤ 5 ∧ 0 ≤ u.2.1.toInt ∧ u.2.1.toInt ≤ 6)) (W1 := (fun u => [(h0, .inr (4, [.int ype, .int ytk, .ref ywi, .ref yki, .ref yse, .ref yno, .ref yrh, .ref yrw, .ref yrk, .ref yrt, .int u.1, .int u.2.1, .ref ytx, .int yle, .int u.2.2.1, .int u.2.2.2.1, .ref yby, .ref ylo, .ref yhi, .int yac, .int ynx, .ref yro, .ref ygl, .int ysn, .ref yso, .ref ysp, .ref ysw, .long ysd, .ref yik, .ref ykp])), (ytx, .inl (cI, 64, .inl Ftx)), (yrh, .inl (cI, 5, .inl u.2.2.2.2.1)), (yrw, .inl (cI, 5, .inl u.2.2.2.2.2.1)), (yrk, .inl (cI, 5, .inl u.2.2.2.2.2.2.1)), (yrt, .inl (cI, 30, .inl u.2.2.2.2.2.2.2))])) (np, nq, na, nf, grh, grw, grk, grt) hx hb hr hlocks rfl hQ hK hP hD hS ⟨by decide, by decide⟩ dX4_readText_324 (show 0 ≤ np.toInt ∧ np.toInt ≤ 5 ∧ 0 ≤ nq.toInt ∧ nq.toInt ≤ 6 by omega)
            · have tc_7 := b_nle rfl rfl c_7
              refine lv_aload_n hx hb dX4_readText_66 rfl (lv_at hl 0 rfl) ?_
              refine va_get (D := D) (ci := 4) (v := .ref ytx) (C := RX4) (T := TX4) (N := 30) hx hb hts iX4 hown hK hP 0 rfl rfl 12 (by decide) (hts (.fieldLink RX4 34 "PunchedTicketModel" "text" "[I") (List.mem_of_getElem? (i := 6) rfl)) (fun _ h9 => h9) rfl dX4_readText_67 ?_
              refine lv_aload_n hx hb dX4_readText_70 rfl (lv_at hl 0 rfl) ?_
              refine va_get (D := D) (ci := 4) (v := .int na) (C := RX4) (T := TX4) (N := 30) hx hb hts iX4 hown hK hP 0 rfl rfl 14 (by decide) (hts (.fieldLink RX4 84 "PunchedTicketModel" "at" "I") (List.mem_of_getElem? (i := 1) rfl)) (fun _ h9 => h9) rfl dX4_readText_71 ?_
              refine va_iald hx hb hK hP 1 0 rfl rfl (vp_in_iff.mpr ⟨by omega, by omega⟩) dX4_readText_74 ?_
              refine lv_topi (fun v_8 ev_8 => ?_)
              refine lv_bipush (v := 80) hx hb dX4_readText_75 (by decide) ?_
              refine lv_icmp_ne (tgt := 161) hx hb dX4_readText_77 (by decide) (fun c_9 => ?_) (fun c_9 => ?_)
              · have tc_9 := b_ne rfl (show (80 : Int32).toInt = 80 by decide) c_9
                refine lv_aload_n hx hb dX4_readText_161 rfl (lv_at hl 0 rfl) ?_
                refine va_get (D := D) (ci := 4) (v := .ref ytx) (C := RX4) (T := TX4) (N := 30) hx hb hts iX4 hown hK hP 0 rfl rfl 12 (by decide) (hts (.fieldLink RX4 34 "PunchedTicketModel" "text" "[I") (List.mem_of_getElem? (i := 6) rfl)) (fun _ h9 => h9) rfl dX4_readText_162 ?_
                refine lv_aload_n hx hb dX4_readText_165 rfl (lv_at hl 0 rfl) ?_
                refine va_get (D := D) (ci := 4) (v := .int na) (C := RX4) (T := TX4) (N := 30) hx hb hts iX4 hown hK hP 0 rfl rfl 14 (by decide) (hts (.fieldLink RX4 84 "PunchedTicketModel" "at" "I") (List.mem_of_getElem? (i := 1) rfl)) (fun _ h9 => h9) rfl dX4_readText_166 ?_
                refine va_iald hx hb hK hP 1 0 rfl rfl (vp_in_iff.mpr ⟨by omega, by omega⟩) dX4_readText_169 ?_
                refine lv_topi (fun v_10 ev_10 => ?_)
                refine lv_bipush (v := 84) hx hb dX4_readText_170 (by decide) ?_
                refine lv_icmp_ne (tgt := 309) hx hb dX4_readText_172 (by decide) (fun c_11 => ?_) (fun c_11 => ?_)
                · have tc_11 := b_ne rfl (show (84 : Int32).toInt = 84 by decide) c_11
                  refine lv_aload_n hx hb dX4_readText_309 rfl (lv_at hl 0 rfl) ?_
                  refine lv_aload_n hx hb dX4_readText_310 rfl (lv_at hl 0 rfl) ?_
                  refine va_get (D := D) (ci := 4) (v := .int na) (C := RX4) (T := TX4) (N := 30) hx hb hts iX4 hown hK hP 0 rfl rfl 14 (by decide) (hts (.fieldLink RX4 84 "PunchedTicketModel" "at" "I") (List.mem_of_getElem? (i := 1) rfl)) (fun _ h9 => h9) rfl dX4_readText_311 ?_
                  refine va_put (D := D) (ci := 4) (v := .int na) (ty := .int) (C := RX4) (T := TX4) (N := 30) hx hb hts iX4 tyX4 tyX4_ok nmX4 hown hK hP hD hS 0 rfl rfl 15 (by decide) (hts (.fieldLink RX4 81 "PunchedTicketModel" "faultAt" "I") (List.mem_of_getElem? (i := 2) rfl)) (fun _ h9 => h9) rfl (by decide +kernel) rfl rfl (Nat.le_of_ble_eq_true rfl) dX4_readText_314 (fun H locs hP hD hS => ?_)
                  have hP : va_P D vwCl [(h0, .inr (4, [.int ype, .int ytk, .ref ywi, .ref yki, .ref yse, .ref yno, .ref yrh, .ref yrw, .ref yrk, .ref yrt, .int np, .int nq, .ref ytx, .int yle, .int na, .int na, .ref yby, .ref ylo, .ref yhi, .int yac, .int ynx, .ref yro, .ref ygl, .int ysn, .ref yso, .ref ysp, .ref ysw, .long ysd, .ref yik, .ref ykp])), (ytx, .inl (cI, 64, .inl Ftx)), (yrh, .inl (cI, 5, .inl grh)), (yrw, .inl (cI, 5, .inl grw)), (yrk, .inl (cI, 5, .inl grk)), (yrt, .inl (cI, 30, .inl grt))] H := hP
                  have hD : va_D A [(h0, .inr (4, [.int ype, .int ytk, .ref ywi, .ref yki, .ref yse, .ref yno, .ref yrh, .ref yrw, .ref yrk, .ref yrt, .int np, .int nq, .ref ytx, .int yle, .int na, .int na, .ref yby, .ref ylo, .ref yhi, .int yac, .int ynx, .ref yro, .ref ygl, .int ysn, .ref yso, .ref ysp, .ref ysw, .long ysd, .ref yik, .ref ykp])), (ytx, .inl (cI, 64, .inl Ftx)), (yrh, .inl (cI, 5, .inl grh)), (yrw, .inl (cI, 5, .inl grw)), (yrk, .inl (cI, 5, .inl grk)), (yrt, .inl (cI, 30, .inl grt))] := hD
                  refine lv_goto (tgt := 46) hx hb dX4_readText_317 (by decide) ?_
                  exact ih_5 np nq na na grh grw grk grt _ _ _ (show (200 * (65 - na.toInt) + (64 - na.toInt)).toNat < fu_4 by omega) (show 0 ≤ np.toInt ∧ np.toInt ≤ 5 by omega) (show 0 ≤ nq.toInt ∧ nq.toInt ≤ 6 by omega) (show 1 ≤ na.toInt ∧ na.toInt ≤ 64 by omega) (show -9 ≤ na.toInt ∧ na.toInt ≤ 64 by omega) hP hD hS (lv_sub hl [0] rfl)
                · have tc_11 := b_eq rfl (show (84 : Int32).toInt = 84 by decide) c_11
                  refine lv_aload_n hx hb dX4_readText_175 rfl (lv_at hl 0 rfl) ?_
                  refine va_get (D := D) (ci := 4) (v := .int nq) (C := RX4) (T := TX4) (N := 30) hx hb hts iX4 hown hK hP 0 rfl rfl 11 (by decide) (hts (.fieldLink RX4 90 "PunchedTicketModel" "readTickets" "I") (List.mem_of_getElem? (i := 4) rfl)) (fun _ h9 => h9) rfl dX4_readText_176 ?_
                  refine lv_bipush (v := 6) hx hb dX4_readText_179 (by decide) ?_
                  refine lv_icmp_ge (tgt := 309) hx hb dX4_readText_181 (by decide) (fun c_12 => ?_) (fun c_12 => ?_)
                  · have tc_12 := b_le (show (6 : Int32).toInt = 6 by decide) rfl c_12
                    refine lv_aload_n hx hb dX4_readText_309 rfl (lv_at hl 0 rfl) ?_
                    refine lv_aload_n hx hb dX4_readText_310 rfl (lv_at hl 0 rfl) ?_
                    refine va_get (D := D) (ci := 4) (v := .int na) (C := RX4) (T := TX4) (N := 30) hx hb hts iX4 hown hK hP 0 rfl rfl 14 (by decide) (hts (.fieldLink RX4 84 "PunchedTicketModel" "at" "I") (List.mem_of_getElem? (i := 1) rfl)) (fun _ h9 => h9) rfl dX4_readText_311 ?_
                    refine va_put (D := D) (ci := 4) (v := .int na) (ty := .int) (C := RX4) (T := TX4) (N := 30) hx hb hts iX4 tyX4 tyX4_ok nmX4 hown hK hP hD hS 0 rfl rfl 15 (by decide) (hts (.fieldLink RX4 81 "PunchedTicketModel" "faultAt" "I") (List.mem_of_getElem? (i := 2) rfl)) (fun _ h9 => h9) rfl (by decide +kernel) rfl rfl (Nat.le_of_ble_eq_true rfl) dX4_readText_314 (fun H locs hP hD hS => ?_)
                    have hP : va_P D vwCl [(h0, .inr (4, [.int ype, .int ytk, .ref ywi, .ref yki, .ref yse, .ref yno, .ref yrh, .ref yrw, .ref yrk, .ref yrt, .int np, .int nq, .ref ytx, .int yle, .int na, .int na, .ref yby, .ref ylo, .ref yhi, .int yac, .int ynx, .ref yro, .ref ygl, .int ysn, .ref yso, .ref ysp, .ref ysw, .long ysd, .ref yik, .ref ykp])), (ytx, .inl (cI, 64, .inl Ftx)), (yrh, .inl (cI, 5, .inl grh)), (yrw, .inl (cI, 5, .inl grw)), (yrk, .inl (cI, 5, .inl grk)), (yrt, .inl (cI, 30, .inl grt))] H := hP
                    have hD : va_D A [(h0, .inr (4, [.int ype, .int ytk, .ref ywi, .ref yki, .ref yse, .ref yno, .ref yrh, .ref yrw, .ref yrk, .ref yrt, .int np, .int nq, .ref ytx, .int yle, .int na, .int na, .ref yby, .ref ylo, .ref yhi, .int yac, .int ynx, .ref yro, .ref ygl, .int ysn, .ref yso, .ref ysp, .ref ysw, .long ysd, .ref yik, .ref ykp])), (ytx, .inl (cI, 64, .inl Ftx)), (yrh, .inl (cI, 5, .inl grh)), (yrw, .inl (cI, 5, .inl grw)), (yrk, .inl (cI, 5, .inl grk)), (yrt, .inl (cI, 30, .inl grt))] := hD
                    refine lv_goto (tgt := 46) hx hb dX4_readText_317 (by decide) ?_
                    exact ih_5 np nq na na grh grw grk grt _ _ _ (show (200 * (65 - na.toInt) + (64 - na.toInt)).toNat < fu_4 by omega) (show 0 ≤ np.toInt ∧ np.toInt ≤ 5 by omega) (show 0 ≤ nq.toInt ∧ nq.toInt ≤ 6 by omega) (show 1 ≤ na.toInt ∧ na.toInt ≤ 64 by omega) (show -9 ≤ na.toInt ∧ na.toInt ≤ 64 by omega) hP hD hS (lv_sub hl [0] rfl)
                  · have tc_12 := b_nle (show (6 : Int32).toInt = 6 by decide) rfl c_12
                    refine lv_aload_n hx hb dX4_readText_184 rfl (lv_at hl 0 rfl) ?_
                    refine va_get (D := D) (ci := 4) (v := .int np) (C := RX4) (T := TX4) (N := 30) hx hb hts iX4 hown hK hP 0 rfl rfl 10 (by decide) (hts (.fieldLink RX4 87 "PunchedTicketModel" "readPeople" "I") (List.mem_of_getElem? (i := 3) rfl)) (fun _ h9 => h9) rfl dX4_readText_185 ?_
                    refine lv_if_le (tgt := 309) hx hb dX4_readText_188 (by decide) (fun c_13 => ?_) (fun c_13 => ?_)
                    · have tc_13 := b_le rfl (show (0 : Int32).toInt = 0 by decide) c_13
                      refine lv_aload_n hx hb dX4_readText_309 rfl (lv_at hl 0 rfl) ?_
                      refine lv_aload_n hx hb dX4_readText_310 rfl (lv_at hl 0 rfl) ?_
                      refine va_get (D := D) (ci := 4) (v := .int na) (C := RX4) (T := TX4) (N := 30) hx hb hts iX4 hown hK hP 0 rfl rfl 14 (by decide) (hts (.fieldLink RX4 84 "PunchedTicketModel" "at" "I") (List.mem_of_getElem? (i := 1) rfl)) (fun _ h9 => h9) rfl dX4_readText_311 ?_
                      refine va_put (D := D) (ci := 4) (v := .int na) (ty := .int) (C := RX4) (T := TX4) (N := 30) hx hb hts iX4 tyX4 tyX4_ok nmX4 hown hK hP hD hS 0 rfl rfl 15 (by decide) (hts (.fieldLink RX4 81 "PunchedTicketModel" "faultAt" "I") (List.mem_of_getElem? (i := 2) rfl)) (fun _ h9 => h9) rfl (by decide +kernel) rfl rfl (Nat.le_of_ble_eq_true rfl) dX4_readText_314 (fun H locs hP hD hS => ?_)
                      have hP : va_P D vwCl [(h0, .inr (4, [.int ype, .int ytk, .ref ywi, .ref yki, .ref yse, .ref yno, .ref yrh, .ref yrw, .ref yrk, .ref yrt, .int np, .int nq, .ref ytx, .int yle, .int na, .int na, .ref yby, .ref ylo, .ref yhi, .int yac, .int ynx, .ref yro, .ref ygl, .int ysn, .ref yso, .ref ysp, .ref ysw, .long ysd, .ref yik, .ref ykp])), (ytx, .inl (cI, 64, .inl Ftx)), (yrh, .inl (cI, 5, .inl grh)), (yrw, .inl (cI, 5, .inl grw)), (yrk, .inl (cI, 5, .inl grk)), (yrt, .inl (cI, 30, .inl grt))] H := hP
                      have hD : va_D A [(h0, .inr (4, [.int ype, .int ytk, .ref ywi, .ref yki, .ref yse, .ref yno, .ref yrh, .ref yrw, .ref yrk, .ref yrt, .int np, .int nq, .ref ytx, .int yle, .int na, .int na, .ref yby, .ref ylo, .ref yhi, .int yac, .int ynx, .ref yro, .ref ygl, .int ysn, .ref yso, .ref ysp, .ref ysw, .long ysd, .ref yik, .ref ykp])), (ytx, .inl (cI, 64, .inl Ftx)), (yrh, .inl (cI, 5, .inl grh)), (yrw, .inl (cI, 5, .inl grw)), (yrk, .inl (cI, 5, .inl grk)), (yrt, .inl (cI, 30, .inl grt))] := hD
                      refine lv_goto (tgt := 46) hx hb dX4_readText_317 (by decide) ?_
                      exact ih_5 np nq na na grh grw grk grt _ _ _ (show (200 * (65 - na.toInt) + (64 - na.toInt)).toNat < fu_4 by omega) (show 0 ≤ np.toInt ∧ np.toInt ≤ 5 by omega) (show 0 ≤ nq.toInt ∧ nq.toInt ≤ 6 by omega) (show 1 ≤ na.toInt ∧ na.toInt ≤ 64 by omega) (show -9 ≤ na.toInt ∧ na.toInt ≤ 64 by omega) hP hD hS (lv_sub hl [0] rfl)
                    · have tc_13 := b_nle rfl (show (0 : Int32).toInt = 0 by decide) c_13
                      refine lv_aload_n hx hb dX4_readText_191 rfl (lv_at hl 0 rfl) ?_
                      refine lv_dup hx hb dX4_readText_192 rfl ?_
                      refine va_get (D := D) (ci := 4) (v := .int na) (C := RX4) (T := TX4) (N := 30) hx hb hts iX4 hown hK hP 0 rfl rfl 14 (by decide) (hts (.fieldLink RX4 84 "PunchedTicketModel" "at" "I") (List.mem_of_getElem? (i := 1) rfl)) (fun _ h9 => h9) rfl dX4_readText_193 ?_
                      refine lv_iconst (v := 1) hx hb dX4_readText_196 (by decide) ?_
                      refine lv_iadd hx hb dX4_readText_197 ?_
                      refine lv_topi (fun v_14 ev_14 => ?_)
                      have tv_14 : v_14.toInt = na.toInt + (1 : Int) := by rw [ev_14]; exact ti_add (x := na) (y := 1) (show -2147483648 ≤ na.toInt + (1 : Int) by omega) (show na.toInt + (1 : Int) < 2147483648 by omega)
                      refine va_put (D := D) (ci := 4) (v := .int v_14) (ty := .int) (C := RX4) (T := TX4) (N := 30) hx hb hts iX4 tyX4 tyX4_ok nmX4 hown hK hP hD hS 0 rfl rfl 14 (by decide) (hts (.fieldLink RX4 84 "PunchedTicketModel" "at" "I") (List.mem_of_getElem? (i := 1) rfl)) (fun _ h9 => h9) rfl (by decide +kernel) rfl rfl (Nat.le_of_ble_eq_true rfl) dX4_readText_198 (fun H locs hP hD hS => ?_)
                      have hP : va_P D vwCl [(h0, .inr (4, [.int ype, .int ytk, .ref ywi, .ref yki, .ref yse, .ref yno, .ref yrh, .ref yrw, .ref yrk, .ref yrt, .int np, .int nq, .ref ytx, .int yle, .int v_14, .int nf, .ref yby, .ref ylo, .ref yhi, .int yac, .int ynx, .ref yro, .ref ygl, .int ysn, .ref yso, .ref ysp, .ref ysw, .long ysd, .ref yik, .ref ykp])), (ytx, .inl (cI, 64, .inl Ftx)), (yrh, .inl (cI, 5, .inl grh)), (yrw, .inl (cI, 5, .inl grw)), (yrk, .inl (cI, 5, .inl grk)), (yrt, .inl (cI, 30, .inl grt))] H := hP
                      have hD : va_D A [(h0, .inr (4, [.int ype, .int ytk, .ref ywi, .ref yki, .ref yse, .ref yno, .ref yrh, .ref yrw, .ref yrk, .ref yrt, .int np, .int nq, .ref ytx, .int yle, .int v_14, .int nf, .ref yby, .ref ylo, .ref yhi, .int yac, .int ynx, .ref yro, .ref ygl, .int ysn, .ref yso, .ref ysp, .ref ysw, .long ysd, .ref yik, .ref ykp])), (ytx, .inl (cI, 64, .inl Ftx)), (yrh, .inl (cI, 5, .inl grh)), (yrw, .inl (cI, 5, .inl grw)), (yrk, .inl (cI, 5, .inl grk)), (yrt, .inl (cI, 30, .inl grt))] := hD
                      refine lv_iconst (v := 5) hx hb dX4_readText_201 (by decide) ?_
                      refine lv_aload_n hx hb dX4_readText_202 rfl (lv_at hl 0 rfl) ?_
                      refine va_get (D := D) (ci := 4) (v := .int nq) (C := RX4) (T := TX4) (N := 30) hx hb hts iX4 hown hK hP 0 rfl rfl 11 (by decide) (hts (.fieldLink RX4 90 "PunchedTicketModel" "readTickets" "I") (List.mem_of_getElem? (i := 4) rfl)) (fun _ h9 => h9) rfl dX4_readText_203 ?_
                      refine lv_imul hx hb dX4_readText_206 ?_
                      refine lv_topi (fun v_15 ev_15 => ?_)
                      have tv_15 : v_15.toInt = (5 : Int) * nq.toInt := by rw [ev_15]; exact ti_mul (x := 5) (y := nq) (show -2147483648 ≤ (5 : Int) * nq.toInt by omega) (show (5 : Int) * nq.toInt < 2147483648 by omega)
                      refine lv_istore_n (lv' := [(1, .int v_15), (0, .ref h0)]) hx hb dX4_readText_207 rfl hl (by decide) rfl (fun ls hl => ?_)
                      refine lv_aload_n hx hb dX4_readText_208 rfl (lv_at hl 1 rfl) ?_
                      refine va_get (D := D) (ci := 4) (v := .ref yrt) (C := RX4) (T := TX4) (N := 30) hx hb hts iX4 hown hK hP 0 rfl rfl 9 (by decide) (hts (.fieldLink RX4 31 "PunchedTicketModel" "readTicket" "[I") (List.mem_of_getElem? (i := 10) rfl)) (fun _ h9 => h9) rfl dX4_readText_209 ?_
                      refine lv_iload_n hx hb dX4_readText_212 rfl (lv_at hl 0 rfl) ?_
                      refine lv_aload_n hx hb dX4_readText_213 rfl (lv_at hl 1 rfl) ?_
                      refine lv_bipush (v := 9) hx hb dX4_readText_214 (by decide) ?_
                      refine lv_bipush (v := (-9)) hx hb dX4_readText_216 (by decide) ?_
                      refine cV_i (As := [.int 9, .int (-9)]) (rest := [.int v_15, .ref yrt]) ⟨hx, hb, hml, hown, hts⟩ (c_X4_figure l D cI cZ cM h0 9 (-9) ype ytk ywi yki yse yno yrh yrw yrk yrt np nq ytx yle v_14 nf yby ylo yhi yac ynx yro ygl ysn yso ysp ysw ysd yik ykp Ftx _ (show 0 ≤ v_14.toInt ∧ v_14.toInt ≤ 64 by omega) (show -9 ≤ nf.toInt ∧ nf.toInt ≤ 64 by omega) (show 0 ≤ yle.toInt ∧ yle.toInt ≤ 64 by omega)) (cwV 2 hts gX4_readText_X4_figure rfl rfl rfl (by decide +kernel) ⟨by rw [hR]; decide, by rw [hR]; decide⟩) hK hP hD hS hA [0, 1] [2, 3, 4, 5] rfl rfl (by decide) (by decide) (by decide) rfl 0 rfl hl.1 rfl rfl (Nat.le_of_ble_eq_true rfl) dX4_readText_218 ⟨by rw [hR]; decide, by rw [hR]; decide⟩ (fun r_18 u_19 H locs hw hP hD hS => ?_)
                      obtain ⟨at1_16, fa1_17⟩ := u_19
                      have hP : va_P D vwCl [(h0, .inr (4, [.int ype, .int ytk, .ref ywi, .ref yki, .ref yse, .ref yno, .ref yrh, .ref yrw, .ref yrk, .ref yrt, .int np, .int nq, .ref ytx, .int yle, .int at1_16, .int fa1_17, .ref yby, .ref ylo, .ref yhi, .int yac, .int ynx, .ref yro, .ref ygl, .int ysn, .ref yso, .ref ysp, .ref ysw, .long ysd, .ref yik, .ref ykp])), (ytx, .inl (cI, 64, .inl Ftx)), (yrh, .inl (cI, 5, .inl grh)), (yrw, .inl (cI, 5, .inl grw)), (yrk, .inl (cI, 5, .inl grk)), (yrt, .inl (cI, 30, .inl grt))] H := hP.sub [4, 5, 0, 1, 2, 3] rfl
                      have hD : va_D A [(h0, .inr (4, [.int ype, .int ytk, .ref ywi, .ref yki, .ref yse, .ref yno, .ref yrh, .ref yrw, .ref yrk, .ref yrt, .int np, .int nq, .ref ytx, .int yle, .int at1_16, .int fa1_17, .ref yby, .ref ylo, .ref yhi, .int yac, .int ynx, .ref yro, .ref ygl, .int ysn, .ref yso, .ref ysp, .ref ysw, .long ysd, .ref yik, .ref ykp])), (ytx, .inl (cI, 64, .inl Ftx)), (yrh, .inl (cI, 5, .inl grh)), (yrw, .inl (cI, 5, .inl grw)), (yrk, .inl (cI, 5, .inl grk)), (yrt, .inl (cI, 30, .inl grt))] := hD.sub [4, 5, 0, 1, 2, 3] (by decide) rfl
                      refine W.widen (k := 0) (n := 0) (Nat.le_refl _) (Nat.le_refl _) ?_
                      have hw : 0 ≤ at1_16.toInt ∧ at1_16.toInt ≤ 64 ∧ v_14.toInt ≤ at1_16.toInt ∧ -9 ≤ fa1_17.toInt ∧ fa1_17.toInt ≤ 64 ∧ nf.toInt ≤ fa1_17.toInt := hw
                      have hw_20 := hw
                      obtain ⟨hw_20a, hw_20b, hw_20c, hw_20d, hw_20e, hw_20f⟩ := hw_20
                      refine va_iast hx hb hK hP hD hS 5 0 rfl rfl (vp_in_iff.mpr ⟨by omega, by omega⟩) dX4_readText_221 (fun H locs hP hD hS => ?_)
                      obtain ⟨f_21, ef_21⟩ : ∃ g : Nat → Int32, upd grt (v_15 : Int32).toNatClampNeg r_18 = g := ⟨_, rfl⟩
                      rw [ef_21] at hP hD
                      have hP : va_P D vwCl [(h0, .inr (4, [.int ype, .int ytk, .ref ywi, .ref yki, .ref yse, .ref yno, .ref yrh, .ref yrw, .ref yrk, .ref yrt, .int np, .int nq, .ref ytx, .int yle, .int at1_16, .int fa1_17, .ref yby, .ref ylo, .ref yhi, .int yac, .int ynx, .ref yro, .ref ygl, .int ysn, .ref yso, .ref ysp, .ref ysw, .long ysd, .ref yik, .ref ykp])), (ytx, .inl (cI, 64, .inl Ftx)), (yrh, .inl (cI, 5, .inl grh)), (yrw, .inl (cI, 5, .inl grw)), (yrk, .inl (cI, 5, .inl grk)), (yrt, .inl (cI, 30, .inl f_21))] H := hP
                      have hD : va_D A [(h0, .inr (4, [.int ype, .int ytk, .ref ywi, .ref yki, .ref yse, .ref yno, .ref yrh, .ref yrw, .ref yrk, .ref yrt, .int np, .int nq, .ref ytx, .int yle, .int at1_16, .int fa1_17, .ref yby, .ref ylo, .ref yhi, .int yac, .int ynx, .ref yro, .ref ygl, .int ysn, .ref yso, .ref ysp, .ref ysw, .long ysd, .ref yik, .ref ykp])), (ytx, .inl (cI, 64, .inl Ftx)), (yrh, .inl (cI, 5, .inl grh)), (yrw, .inl (cI, 5, .inl grw)), (yrk, .inl (cI, 5, .inl grk)), (yrt, .inl (cI, 30, .inl f_21))] := hD
                      refine lv_aload_n hx hb dX4_readText_222 rfl (lv_at hl 1 rfl) ?_
                      refine va_get (D := D) (ci := 4) (v := .ref yrt) (C := RX4) (T := TX4) (N := 30) hx hb hts iX4 hown hK hP 0 rfl rfl 9 (by decide) (hts (.fieldLink RX4 31 "PunchedTicketModel" "readTicket" "[I") (List.mem_of_getElem? (i := 10) rfl)) (fun _ h9 => h9) rfl dX4_readText_223 ?_
                      refine lv_iload_n hx hb dX4_readText_226 rfl (lv_at hl 0 rfl) ?_
                      refine lv_iconst (v := 1) hx hb dX4_readText_227 (by decide) ?_
                      refine lv_iadd hx hb dX4_readText_228 ?_
                      refine lv_topi (fun v_22 ev_22 => ?_)
                      have tv_22 : v_22.toInt = v_15.toInt + (1 : Int) := by rw [ev_22]; exact ti_add (x := v_15) (y := 1) (show -2147483648 ≤ v_15.toInt + (1 : Int) by omega) (show v_15.toInt + (1 : Int) < 2147483648 by omega)
                      refine lv_aload_n hx hb dX4_readText_229 rfl (lv_at hl 1 rfl) ?_
                      refine lv_bipush (v := 9) hx hb dX4_readText_230 (by decide) ?_
                      refine lv_bipush (v := (-9)) hx hb dX4_readText_232 (by decide) ?_
                      refine cV_i (As := [.int 9, .int (-9)]) (rest := [.int v_22, .ref yrt]) ⟨hx, hb, hml, hown, hts⟩ (c_X4_figure l D cI cZ cM h0 9 (-9) ype ytk ywi yki yse yno yrh yrw yrk yrt np nq ytx yle at1_16 fa1_17 yby ylo yhi yac ynx yro ygl ysn yso ysp ysw ysd yik ykp Ftx _ (show 0 ≤ at1_16.toInt ∧ at1_16.toInt ≤ 64 by omega) (show -9 ≤ fa1_17.toInt ∧ fa1_17.toInt ≤ 64 by omega) (show 0 ≤ yle.toInt ∧ yle.toInt ≤ 64 by omega)) (cwV 2 hts gX4_readText_X4_figure rfl rfl rfl (by decide +kernel) ⟨by rw [hR]; decide, by rw [hR]; decide⟩) hK hP hD hS hA [0, 1] [2, 3, 4, 5] rfl rfl (by decide) (by decide) (by decide) rfl 0 rfl hl.1 rfl rfl (Nat.le_of_ble_eq_true rfl) dX4_readText_234 ⟨by rw [hR]; decide, by rw [hR]; decide⟩ (fun r_25 u_26 H locs hw hP hD hS => ?_)
                      obtain ⟨at1_23, fa1_24⟩ := u_26
                      have hP : va_P D vwCl [(h0, .inr (4, [.int ype, .int ytk, .ref ywi, .ref yki, .ref yse, .ref yno, .ref yrh, .ref yrw, .ref yrk, .ref yrt, .int np, .int nq, .ref ytx, .int yle, .int at1_23, .int fa1_24, .ref yby, .ref ylo, .ref yhi, .int yac, .int ynx, .ref yro, .ref ygl, .int ysn, .ref yso, .ref ysp, .ref ysw, .long ysd, .ref yik, .ref ykp])), (ytx, .inl (cI, 64, .inl Ftx)), (yrh, .inl (cI, 5, .inl grh)), (yrw, .inl (cI, 5, .inl grw)), (yrk, .inl (cI, 5, .inl grk)), (yrt, .inl (cI, 30, .inl f_21))] H := hP.sub [4, 5, 0, 1, 2, 3] rfl
                      have hD : va_D A [(h0, .inr (4, [.int ype, .int ytk, .ref ywi, .ref yki, .ref yse, .ref yno, .ref yrh, .ref yrw, .ref yrk, .ref yrt, .int np, .int nq, .ref ytx, .int yle, .int at1_23, .int fa1_24, .ref yby, .ref ylo, .ref yhi, .int yac, .int ynx, .ref yro, .ref ygl, .int ysn, .ref yso, .ref ysp, .ref ysw, .long ysd, .ref yik, .ref ykp])), (ytx, .inl (cI, 64, .inl Ftx)), (yrh, .inl (cI, 5, .inl grh)), (yrw, .inl (cI, 5, .inl grw)), (yrk, .inl (cI, 5, .inl grk)), (yrt, .inl (cI, 30, .inl f_21))] := hD.sub [4, 5, 0, 1, 2, 3] (by decide) rfl
                      refine W.widen (k := 0) (n := 0) (Nat.le_refl _) (Nat.le_refl _) ?_
                      have hw : 0 ≤ at1_23.toInt ∧ at1_23.toInt ≤ 64 ∧ at1_16.toInt ≤ at1_23.toInt ∧ -9 ≤ fa1_24.toInt ∧ fa1_24.toInt ≤ 64 ∧ fa1_17.toInt ≤ fa1_24.toInt := hw
                      have hw_27 := hw
                      obtain ⟨hw_27a, hw_27b, hw_27c, hw_27d, hw_27e, hw_27f⟩ := hw_27
                      refine va_iast hx hb hK hP hD hS 5 0 rfl rfl (vp_in_iff.mpr ⟨by omega, by omega⟩) dX4_readText_237 (fun H locs hP hD hS => ?_)
                      obtain ⟨f_28, ef_28⟩ : ∃ g : Nat → Int32, upd f_21 (v_22 : Int32).toNatClampNeg r_25 = g := ⟨_, rfl⟩
                      rw [ef_28] at hP hD
                      have hP : va_P D vwCl [(h0, .inr (4, [.int ype, .int ytk, .ref ywi, .ref yki, .ref yse, .ref yno, .ref yrh, .ref yrw, .ref yrk, .ref yrt, .int np, .int nq, .ref ytx, .int yle, .int at1_23, .int fa1_24, .ref yby, .ref ylo, .ref yhi, .int yac, .int ynx, .ref yro, .ref ygl, .int ysn, .ref yso, .ref ysp, .ref ysw, .long ysd, .ref yik, .ref ykp])), (ytx, .inl (cI, 64, .inl Ftx)), (yrh, .inl (cI, 5, .inl grh)), (yrw, .inl (cI, 5, .inl grw)), (yrk, .inl (cI, 5, .inl grk)), (yrt, .inl (cI, 30, .inl f_28))] H := hP
                      have hD : va_D A [(h0, .inr (4, [.int ype, .int ytk, .ref ywi, .ref yki, .ref yse, .ref yno, .ref yrh, .ref yrw, .ref yrk, .ref yrt, .int np, .int nq, .ref ytx, .int yle, .int at1_23, .int fa1_24, .ref yby, .ref ylo, .ref yhi, .int yac, .int ynx, .ref yro, .ref ygl, .int ysn, .ref yso, .ref ysp, .ref ysw, .long ysd, .ref yik, .ref ykp])), (ytx, .inl (cI, 64, .inl Ftx)), (yrh, .inl (cI, 5, .inl grh)), (yrw, .inl (cI, 5, .inl grw)), (yrk, .inl (cI, 5, .inl grk)), (yrt, .inl (cI, 30, .inl f_28))] := hD
                      refine lv_aload_n hx hb dX4_readText_238 rfl (lv_at hl 1 rfl) ?_
                      refine va_get (D := D) (ci := 4) (v := .ref yrt) (C := RX4) (T := TX4) (N := 30) hx hb hts iX4 hown hK hP 0 rfl rfl 9 (by decide) (hts (.fieldLink RX4 31 "PunchedTicketModel" "readTicket" "[I") (List.mem_of_getElem? (i := 10) rfl)) (fun _ h9 => h9) rfl dX4_readText_239 ?_
                      refine lv_iload_n hx hb dX4_readText_242 rfl (lv_at hl 0 rfl) ?_
                      refine lv_iconst (v := 2) hx hb dX4_readText_243 (by decide) ?_
                      refine lv_iadd hx hb dX4_readText_244 ?_
                      refine lv_topi (fun v_29 ev_29 => ?_)
                      have tv_29 : v_29.toInt = v_15.toInt + (2 : Int) := by rw [ev_29]; exact ti_add (x := v_15) (y := 2) (show -2147483648 ≤ v_15.toInt + (2 : Int) by omega) (show v_15.toInt + (2 : Int) < 2147483648 by omega)
                      refine lv_aload_n hx hb dX4_readText_245 rfl (lv_at hl 1 rfl) ?_
                      refine lv_bipush (v := 9) hx hb dX4_readText_246 (by decide) ?_
                      refine lv_aload_n hx hb dX4_readText_248 rfl (lv_at hl 1 rfl) ?_
                      refine va_get (D := D) (ci := 4) (v := .ref yrt) (C := RX4) (T := TX4) (N := 30) hx hb hts iX4 hown hK hP 0 rfl rfl 9 (by decide) (hts (.fieldLink RX4 31 "PunchedTicketModel" "readTicket" "[I") (List.mem_of_getElem? (i := 10) rfl)) (fun _ h9 => h9) rfl dX4_readText_249 ?_
                      refine lv_iload_n hx hb dX4_readText_252 rfl (lv_at hl 0 rfl) ?_
                      refine lv_iconst (v := 1) hx hb dX4_readText_253 (by decide) ?_
                      refine lv_iadd hx hb dX4_readText_254 ?_
                      refine lv_topi (fun v_30 ev_30 => ?_)
                      have tv_30 : v_30.toInt = v_15.toInt + (1 : Int) := by rw [ev_30]; exact ti_add (x := v_15) (y := 1) (show -2147483648 ≤ v_15.toInt + (1 : Int) by omega) (show v_15.toInt + (1 : Int) < 2147483648 by omega)
                      refine va_iald hx hb hK hP 5 0 rfl rfl (vp_in_iff.mpr ⟨by omega, by omega⟩) dX4_readText_255 ?_
                      refine lv_topi (fun v_31 ev_31 => ?_)
                      refine cV_i (As := [.int 9, .int v_31]) (rest := [.int v_29, .ref yrt]) ⟨hx, hb, hml, hown, hts⟩ (c_X4_figure l D cI cZ cM h0 9 v_31 ype ytk ywi yki yse yno yrh yrw yrk yrt np nq ytx yle at1_23 fa1_24 yby ylo yhi yac ynx yro ygl ysn yso ysp ysw ysd yik ykp Ftx _ (show 0 ≤ at1_23.toInt ∧ at1_23.toInt ≤ 64 by omega) (show -9 ≤ fa1_24.toInt ∧ fa1_24.toInt ≤ 64 by omega) (show 0 ≤ yle.toInt ∧ yle.toInt ≤ 64 by omega)) (cwV 2 hts gX4_readText_X4_figure rfl rfl rfl (by decide +kernel) ⟨by rw [hR]; decide, by rw [hR]; decide⟩) hK hP hD hS hA [0, 1] [2, 3, 4, 5] rfl rfl (by decide) (by decide) (by decide) rfl 0 rfl hl.1 rfl rfl (Nat.le_of_ble_eq_true rfl) dX4_readText_256 ⟨by rw [hR]; decide, by rw [hR]; decide⟩ (fun r_34 u_35 H locs hw hP hD hS => ?_)
                      obtain ⟨at1_32, fa1_33⟩ := u_35
                      have hP : va_P D vwCl [(h0, .inr (4, [.int ype, .int ytk, .ref ywi, .ref yki, .ref yse, .ref yno, .ref yrh, .ref yrw, .ref yrk, .ref yrt, .int np, .int nq, .ref ytx, .int yle, .int at1_32, .int fa1_33, .ref yby, .ref ylo, .ref yhi, .int yac, .int ynx, .ref yro, .ref ygl, .int ysn, .ref yso, .ref ysp, .ref ysw, .long ysd, .ref yik, .ref ykp])), (ytx, .inl (cI, 64, .inl Ftx)), (yrh, .inl (cI, 5, .inl grh)), (yrw, .inl (cI, 5, .inl grw)), (yrk, .inl (cI, 5, .inl grk)), (yrt, .inl (cI, 30, .inl f_28))] H := hP.sub [4, 5, 0, 1, 2, 3] rfl
                      have hD : va_D A [(h0, .inr (4, [.int ype, .int ytk, .ref ywi, .ref yki, .ref yse, .ref yno, .ref yrh, .ref yrw, .ref yrk, .ref yrt, .int np, .int nq, .ref ytx, .int yle, .int at1_32, .int fa1_33, .ref yby, .ref ylo, .ref yhi, .int yac, .int ynx, .ref yro, .ref ygl, .int ysn, .ref yso, .ref ysp, .ref ysw, .long ysd, .ref yik, .ref ykp])), (ytx, .inl (cI, 64, .inl Ftx)), (yrh, .inl (cI, 5, .inl grh)), (yrw, .inl (cI, 5, .inl grw)), (yrk, .inl (cI, 5, .inl grk)), (yrt, .inl (cI, 30, .inl f_28))] := hD.sub [4, 5, 0, 1, 2, 3] (by decide) rfl
                      refine W.widen (k := 0) (n := 0) (Nat.le_refl _) (Nat.le_refl _) ?_
                      have hw : 0 ≤ at1_32.toInt ∧ at1_32.toInt ≤ 64 ∧ at1_23.toInt ≤ at1_32.toInt ∧ -9 ≤ fa1_33.toInt ∧ fa1_33.toInt ≤ 64 ∧ fa1_24.toInt ≤ fa1_33.toInt := hw
                      have hw_36 := hw
                      obtain ⟨hw_36a, hw_36b, hw_36c, hw_36d, hw_36e, hw_36f⟩ := hw_36
                      refine va_iast hx hb hK hP hD hS 5 0 rfl rfl (vp_in_iff.mpr ⟨by omega, by omega⟩) dX4_readText_259 (fun H locs hP hD hS => ?_)
                      obtain ⟨f_37, ef_37⟩ : ∃ g : Nat → Int32, upd f_28 (v_29 : Int32).toNatClampNeg r_34 = g := ⟨_, rfl⟩
                      rw [ef_37] at hP hD
                      have hP : va_P D vwCl [(h0, .inr (4, [.int ype, .int ytk, .ref ywi, .ref yki, .ref yse, .ref yno, .ref yrh, .ref yrw, .ref yrk, .ref yrt, .int np, .int nq, .ref ytx, .int yle, .int at1_32, .int fa1_33, .ref yby, .ref ylo, .ref yhi, .int yac, .int ynx, .ref yro, .ref ygl, .int ysn, .ref yso, .ref ysp, .ref ysw, .long ysd, .ref yik, .ref ykp])), (ytx, .inl (cI, 64, .inl Ftx)), (yrh, .inl (cI, 5, .inl grh)), (yrw, .inl (cI, 5, .inl grw)), (yrk, .inl (cI, 5, .inl grk)), (yrt, .inl (cI, 30, .inl f_37))] H := hP
                      have hD : va_D A [(h0, .inr (4, [.int ype, .int ytk, .ref ywi, .ref yki, .ref yse, .ref yno, .ref yrh, .ref yrw, .ref yrk, .ref yrt, .int np, .int nq, .ref ytx, .int yle, .int at1_32, .int fa1_33, .ref yby, .ref ylo, .ref yhi, .int yac, .int ynx, .ref yro, .ref ygl, .int ysn, .ref yso, .ref ysp, .ref ysw, .long ysd, .ref yik, .ref ykp])), (ytx, .inl (cI, 64, .inl Ftx)), (yrh, .inl (cI, 5, .inl grh)), (yrw, .inl (cI, 5, .inl grw)), (yrk, .inl (cI, 5, .inl grk)), (yrt, .inl (cI, 30, .inl f_37))] := hD
                      refine lv_aload_n hx hb dX4_readText_260 rfl (lv_at hl 1 rfl) ?_
                      refine va_get (D := D) (ci := 4) (v := .ref yrt) (C := RX4) (T := TX4) (N := 30) hx hb hts iX4 hown hK hP 0 rfl rfl 9 (by decide) (hts (.fieldLink RX4 31 "PunchedTicketModel" "readTicket" "[I") (List.mem_of_getElem? (i := 10) rfl)) (fun _ h9 => h9) rfl dX4_readText_261 ?_
                      refine lv_iload_n hx hb dX4_readText_264 rfl (lv_at hl 0 rfl) ?_
                      refine lv_iconst (v := 3) hx hb dX4_readText_265 (by decide) ?_
                      refine lv_iadd hx hb dX4_readText_266 ?_
                      refine lv_topi (fun v_38 ev_38 => ?_)
                      have tv_38 : v_38.toInt = v_15.toInt + (3 : Int) := by rw [ev_38]; exact ti_add (x := v_15) (y := 3) (show -2147483648 ≤ v_15.toInt + (3 : Int) by omega) (show v_15.toInt + (3 : Int) < 2147483648 by omega)
                      refine lv_aload_n hx hb dX4_readText_267 rfl (lv_at hl 1 rfl) ?_
                      refine lv_bipush (v := 9) hx hb dX4_readText_268 (by decide) ?_
                      refine lv_bipush (v := (-9)) hx hb dX4_readText_270 (by decide) ?_
                      refine cV_i (As := [.int 9, .int (-9)]) (rest := [.int v_38, .ref yrt]) ⟨hx, hb, hml, hown, hts⟩ (c_X4_figure l D cI cZ cM h0 9 (-9) ype ytk ywi yki yse yno yrh yrw yrk yrt np nq ytx yle at1_32 fa1_33 yby ylo yhi yac ynx yro ygl ysn yso ysp ysw ysd yik ykp Ftx _ (show 0 ≤ at1_32.toInt ∧ at1_32.toInt ≤ 64 by omega) (show -9 ≤ fa1_33.toInt ∧ fa1_33.toInt ≤ 64 by omega) (show 0 ≤ yle.toInt ∧ yle.toInt ≤ 64 by omega)) (cwV 2 hts gX4_readText_X4_figure rfl rfl rfl (by decide +kernel) ⟨by rw [hR]; decide, by rw [hR]; decide⟩) hK hP hD hS hA [0, 1] [2, 3, 4, 5] rfl rfl (by decide) (by decide) (by decide) rfl 0 rfl hl.1 rfl rfl (Nat.le_of_ble_eq_true rfl) dX4_readText_272 ⟨by rw [hR]; decide, by rw [hR]; decide⟩ (fun r_41 u_42 H locs hw hP hD hS => ?_)
                      obtain ⟨at1_39, fa1_40⟩ := u_42
                      have hP : va_P D vwCl [(h0, .inr (4, [.int ype, .int ytk, .ref ywi, .ref yki, .ref yse, .ref yno, .ref yrh, .ref yrw, .ref yrk, .ref yrt, .int np, .int nq, .ref ytx, .int yle, .int at1_39, .int fa1_40, .ref yby, .ref ylo, .ref yhi, .int yac, .int ynx, .ref yro, .ref ygl, .int ysn, .ref yso, .ref ysp, .ref ysw, .long ysd, .ref yik, .ref ykp])), (ytx, .inl (cI, 64, .inl Ftx)), (yrh, .inl (cI, 5, .inl grh)), (yrw, .inl (cI, 5, .inl grw)), (yrk, .inl (cI, 5, .inl grk)), (yrt, .inl (cI, 30, .inl f_37))] H := hP.sub [4, 5, 0, 1, 2, 3] rfl
                      have hD : va_D A [(h0, .inr (4, [.int ype, .int ytk, .ref ywi, .ref yki, .ref yse, .ref yno, .ref yrh, .ref yrw, .ref yrk, .ref yrt, .int np, .int nq, .ref ytx, .int yle, .int at1_39, .int fa1_40, .ref yby, .ref ylo, .ref yhi, .int yac, .int ynx, .ref yro, .ref ygl, .int ysn, .ref yso, .ref ysp, .ref ysw, .long ysd, .ref yik, .ref ykp])), (ytx, .inl (cI, 64, .inl Ftx)), (yrh, .inl (cI, 5, .inl grh)), (yrw, .inl (cI, 5, .inl grw)), (yrk, .inl (cI, 5, .inl grk)), (yrt, .inl (cI, 30, .inl f_37))] := hD.sub [4, 5, 0, 1, 2, 3] (by decide) rfl
                      refine W.widen (k := 0) (n := 0) (Nat.le_refl _) (Nat.le_refl _) ?_
                      have hw : 0 ≤ at1_39.toInt ∧ at1_39.toInt ≤ 64 ∧ at1_32.toInt ≤ at1_39.toInt ∧ -9 ≤ fa1_40.toInt ∧ fa1_40.toInt ≤ 64 ∧ fa1_33.toInt ≤ fa1_40.toInt := hw
                      have hw_43 := hw
                      obtain ⟨hw_43a, hw_43b, hw_43c, hw_43d, hw_43e, hw_43f⟩ := hw_43
                      refine va_iast hx hb hK hP hD hS 5 0 rfl rfl (vp_in_iff.mpr ⟨by omega, by omega⟩) dX4_readText_275 (fun H locs hP hD hS => ?_)
                      obtain ⟨f_44, ef_44⟩ : ∃ g : Nat → Int32, upd f_37 (v_38 : Int32).toNatClampNeg r_41 = g := ⟨_, rfl⟩
                      rw [ef_44] at hP hD
                      have hP : va_P D vwCl [(h0, .inr (4, [.int ype, .int ytk, .ref ywi, .ref yki, .ref yse, .ref yno, .ref yrh, .ref yrw, .ref yrk, .ref yrt, .int np, .int nq, .ref ytx, .int yle, .int at1_39, .int fa1_40, .ref yby, .ref ylo, .ref yhi, .int yac, .int ynx, .ref yro, .ref ygl, .int ysn, .ref yso, .ref ysp, .ref ysw, .long ysd, .ref yik, .ref ykp])), (ytx, .inl (cI, 64, .inl Ftx)), (yrh, .inl (cI, 5, .inl grh)), (yrw, .inl (cI, 5, .inl grw)), (yrk, .inl (cI, 5, .inl grk)), (yrt, .inl (cI, 30, .inl f_44))] H := hP
                      have hD : va_D A [(h0, .inr (4, [.int ype, .int ytk, .ref ywi, .ref yki, .ref yse, .ref yno, .ref yrh, .ref yrw, .ref yrk, .ref yrt, .int np, .int nq, .ref ytx, .int yle, .int at1_39, .int fa1_40, .ref yby, .ref ylo, .ref yhi, .int yac, .int ynx, .ref yro, .ref ygl, .int ysn, .ref yso, .ref ysp, .ref ysw, .long ysd, .ref yik, .ref ykp])), (ytx, .inl (cI, 64, .inl Ftx)), (yrh, .inl (cI, 5, .inl grh)), (yrw, .inl (cI, 5, .inl grw)), (yrk, .inl (cI, 5, .inl grk)), (yrt, .inl (cI, 30, .inl f_44))] := hD
                      refine lv_aload_n hx hb dX4_readText_276 rfl (lv_at hl 1 rfl) ?_
                      refine va_get (D := D) (ci := 4) (v := .ref yrt) (C := RX4) (T := TX4) (N := 30) hx hb hts iX4 hown hK hP 0 rfl rfl 9 (by decide) (hts (.fieldLink RX4 31 "PunchedTicketModel" "readTicket" "[I") (List.mem_of_getElem? (i := 10) rfl)) (fun _ h9 => h9) rfl dX4_readText_277 ?_
                      refine lv_iload_n hx hb dX4_readText_280 rfl (lv_at hl 0 rfl) ?_
                      refine lv_iconst (v := 4) hx hb dX4_readText_281 (by decide) ?_
                      refine lv_iadd hx hb dX4_readText_282 ?_
                      refine lv_topi (fun v_45 ev_45 => ?_)
                      have tv_45 : v_45.toInt = v_15.toInt + (4 : Int) := by rw [ev_45]; exact ti_add (x := v_15) (y := 4) (show -2147483648 ≤ v_15.toInt + (4 : Int) by omega) (show v_15.toInt + (4 : Int) < 2147483648 by omega)
                      refine lv_aload_n hx hb dX4_readText_283 rfl (lv_at hl 1 rfl) ?_
                      refine lv_aload_n hx hb dX4_readText_284 rfl (lv_at hl 1 rfl) ?_
                      refine va_get (D := D) (ci := 4) (v := .int np) (C := RX4) (T := TX4) (N := 30) hx hb hts iX4 hown hK hP 0 rfl rfl 10 (by decide) (hts (.fieldLink RX4 87 "PunchedTicketModel" "readPeople" "I") (List.mem_of_getElem? (i := 3) rfl)) (fun _ h9 => h9) rfl dX4_readText_285 ?_
                      refine lv_iconst (v := 1) hx hb dX4_readText_288 (by decide) ?_
                      refine lv_isub hx hb dX4_readText_289 ?_
                      refine lv_topi (fun v_46 ev_46 => ?_)
                      have tv_46 : v_46.toInt = np.toInt - (1 : Int) := by rw [ev_46]; exact ti_sub (x := np) (y := 1) (show -2147483648 ≤ np.toInt - (1 : Int) by omega) (show np.toInt - (1 : Int) < 2147483648 by omega)
                      refine lv_bipush (v := (-9)) hx hb dX4_readText_290 (by decide) ?_
                      refine cV_i (As := [.int v_46, .int (-9)]) (rest := [.int v_45, .ref yrt]) ⟨hx, hb, hml, hown, hts⟩ (c_X4_figure l D cI cZ cM h0 v_46 (-9) ype ytk ywi yki yse yno yrh yrw yrk yrt np nq ytx yle at1_39 fa1_40 yby ylo yhi yac ynx yro ygl ysn yso ysp ysw ysd yik ykp Ftx _ (show 0 ≤ at1_39.toInt ∧ at1_39.toInt ≤ 64 by omega) (show -9 ≤ fa1_40.toInt ∧ fa1_40.toInt ≤ 64 by omega) (show 0 ≤ yle.toInt ∧ yle.toInt ≤ 64 by omega)) (cwV 2 hts gX4_readText_X4_figure rfl rfl rfl (by decide +kernel) ⟨by rw [hR]; decide, by rw [hR]; decide⟩) hK hP hD hS hA [0, 1] [2, 3, 4, 5] rfl rfl (by decide) (by decide) (by decide) rfl 0 rfl hl.1 rfl rfl (Nat.le_of_ble_eq_true rfl) dX4_readText_292 ⟨by rw [hR]; decide, by rw [hR]; decide⟩ (fun r_49 u_50 H locs hw hP hD hS => ?_)
                      obtain ⟨at1_47, fa1_48⟩ := u_50
                      have hP : va_P D vwCl [(h0, .inr (4, [.int ype, .int ytk, .ref ywi, .ref yki, .ref yse, .ref yno, .ref yrh, .ref yrw, .ref yrk, .ref yrt, .int np, .int nq, .ref ytx, .int yle, .int at1_47, .int fa1_48, .ref yby, .ref ylo, .ref yhi, .int yac, .int ynx, .ref yro, .ref ygl, .int ysn, .ref yso, .ref ysp, .ref ysw, .long ysd, .ref yik, .ref ykp])), (ytx, .inl (cI, 64, .inl Ftx)), (yrh, .inl (cI, 5, .inl grh)), (yrw, .inl (cI, 5, .inl grw)), (yrk, .inl (cI, 5, .inl grk)), (yrt, .inl (cI, 30, .inl f_44))] H := hP.sub [4, 5, 0, 1, 2, 3] rfl
                      have hD : va_D A [(h0, .inr (4, [.int ype, .int ytk, .ref ywi, .ref yki, .ref yse, .ref yno, .ref yrh, .ref yrw, .ref yrk, .ref yrt, .int np, .int nq, .ref ytx, .int yle, .int at1_47, .int fa1_48, .ref yby, .ref ylo, .ref yhi, .int yac, .int ynx, .ref yro, .ref ygl, .int ysn, .ref yso, .ref ysp, .ref ysw, .long ysd, .ref yik, .ref ykp])), (ytx, .inl (cI, 64, .inl Ftx)), (yrh, .inl (cI, 5, .inl grh)), (yrw, .inl (cI, 5, .inl grw)), (yrk, .inl (cI, 5, .inl grk)), (yrt, .inl (cI, 30, .inl f_44))] := hD.sub [4, 5, 0, 1, 2, 3] (by decide) rfl
                      refine W.widen (k := 0) (n := 0) (Nat.le_refl _) (Nat.le_refl _) ?_
                      have hw : 0 ≤ at1_47.toInt ∧ at1_47.toInt ≤ 64 ∧ at1_39.toInt ≤ at1_47.toInt ∧ -9 ≤ fa1_48.toInt ∧ fa1_48.toInt ≤ 64 ∧ fa1_40.toInt ≤ fa1_48.toInt := hw
                      have hw_51 := hw
                      obtain ⟨hw_51a, hw_51b, hw_51c, hw_51d, hw_51e, hw_51f⟩ := hw_51
                      refine va_iast hx hb hK hP hD hS 5 0 rfl rfl (vp_in_iff.mpr ⟨by omega, by omega⟩) dX4_readText_295 (fun H locs hP hD hS => ?_)
                      obtain ⟨f_52, ef_52⟩ : ∃ g : Nat → Int32, upd f_44 (v_45 : Int32).toNatClampNeg r_49 = g := ⟨_, rfl⟩
                      rw [ef_52] at hP hD
                      have hP : va_P D vwCl [(h0, .inr (4, [.int ype, .int ytk, .ref ywi, .ref yki, .ref yse, .ref yno, .ref yrh, .ref yrw, .ref yrk, .ref yrt, .int np, .int nq, .ref ytx, .int yle, .int at1_47, .int fa1_48, .ref yby, .ref ylo, .ref yhi, .int yac, .int ynx, .ref yro, .ref ygl, .int ysn, .ref yso, .ref ysp, .ref ysw, .long ysd, .ref yik, .ref ykp])), (ytx, .inl (cI, 64, .inl Ftx)), (yrh, .inl (cI, 5, .inl grh)), (yrw, .inl (cI, 5, .inl grw)), (yrk, .inl (cI, 5, .inl grk)), (yrt, .inl (cI, 30, .inl f_52))] H := hP
                      have hD : va_D A [(h0, .inr (4, [.int ype, .int ytk, .ref ywi, .ref yki, .ref yse, .ref yno, .ref yrh, .ref yrw, .ref yrk, .ref yrt, .int np, .int nq, .ref ytx, .int yle, .int at1_47, .int fa1_48, .ref yby, .ref ylo, .ref yhi, .int yac, .int ynx, .ref yro, .ref ygl, .int ysn, .ref yso, .ref ysp, .ref ysw, .long ysd, .ref yik, .ref ykp])), (ytx, .inl (cI, 64, .inl Ftx)), (yrh, .inl (cI, 5, .inl grh)), (yrw, .inl (cI, 5, .inl grw)), (yrk, .inl (cI, 5, .inl grk)), (yrt, .inl (cI, 30, .inl f_52))] := hD
                      refine lv_aload_n hx hb dX4_readText_296 rfl (lv_at hl 1 rfl) ?_
                      refine lv_dup hx hb dX4_readText_297 rfl ?_
                      refine va_get (D := D) (ci := 4) (v := .int nq) (C := RX4) (T := TX4) (N := 30) hx hb hts iX4 hown hK hP 0 rfl rfl 11 (by decide) (hts (.fieldLink RX4 90 "PunchedTicketModel" "readTickets" "I") (List.mem_of_getElem? (i := 4) rfl)) (fun _ h9 => h9) rfl dX4_readText_298 ?_
                      refine lv_iconst (v := 1) hx hb dX4_readText_301 (by decide) ?_
                      refine lv_iadd hx hb dX4_readText_302 ?_
                      refine lv_topi (fun v_53 ev_53 => ?_)
                      have tv_53 : v_53.toInt = nq.toInt + (1 : Int) := by rw [ev_53]; exact ti_add (x := nq) (y := 1) (show -2147483648 ≤ nq.toInt + (1 : Int) by omega) (show nq.toInt + (1 : Int) < 2147483648 by omega)
                      refine va_put (D := D) (ci := 4) (v := .int v_53) (ty := .int) (C := RX4) (T := TX4) (N := 30) hx hb hts iX4 tyX4 tyX4_ok nmX4 hown hK hP hD hS 0 rfl rfl 11 (by decide) (hts (.fieldLink RX4 90 "PunchedTicketModel" "readTickets" "I") (List.mem_of_getElem? (i := 4) rfl)) (fun _ h9 => h9) rfl (by decide +kernel) rfl rfl (Nat.le_of_ble_eq_true rfl) dX4_readText_303 (fun H locs hP hD hS => ?_)
                      have hP : va_P D vwCl [(h0, .inr (4, [.int ype, .int ytk, .ref ywi, .ref yki, .ref yse, .ref yno, .ref yrh, .ref yrw, .ref yrk, .ref yrt, .int np, .int v_53, .ref ytx, .int yle, .int at1_47, .int fa1_48, .ref yby, .ref ylo, .ref yhi, .int yac, .int ynx, .ref yro, .ref ygl, .int ysn, .ref yso, .ref ysp, .ref ysw, .long ysd, .ref yik, .ref ykp])), (ytx, .inl (cI, 64, .inl Ftx)), (yrh, .inl (cI, 5, .inl grh)), (yrw, .inl (cI, 5, .inl grw)), (yrk, .inl (cI, 5, .inl grk)), (yrt, .inl (cI, 30, .inl f_52))] H := hP
                      have hD : va_D A [(h0, .inr (4, [.int ype, .int ytk, .ref ywi, .ref yki, .ref yse, .ref yno, .ref yrh, .ref yrw, .ref yrk, .ref yrt, .int np, .int v_53, .ref ytx, .int yle, .int at1_47, .int fa1_48, .ref yby, .ref ylo, .ref yhi, .int yac, .int ynx, .ref yro, .ref ygl, .int ysn, .ref yso, .ref ysp, .ref ysw, .long ysd, .ref yik, .ref ykp])), (ytx, .inl (cI, 64, .inl Ftx)), (yrh, .inl (cI, 5, .inl grh)), (yrw, .inl (cI, 5, .inl grw)), (yrk, .inl (cI, 5, .inl grk)), (yrt, .inl (cI, 30, .inl f_52))] := hD
                      refine lv_goto (tgt := 46) hx hb dX4_readText_306 (by decide) ?_
                      exact ih_5 np v_53 at1_47 fa1_48 grh grw grk f_52 _ _ _ (show (200 * (65 - at1_47.toInt) + (64 - fa1_48.toInt)).toNat < fu_4 by omega) (show 0 ≤ np.toInt ∧ np.toInt ≤ 5 by omega) (show 0 ≤ v_53.toInt ∧ v_53.toInt ≤ 6 by omega) (show 1 ≤ at1_47.toInt ∧ at1_47.toInt ≤ 64 by omega) (show -9 ≤ fa1_48.toInt ∧ fa1_48.toInt ≤ 64 by omega) hP hD hS (lv_sub hl [1] rfl)
              · have tc_9 := b_eq rfl (show (80 : Int32).toInt = 80 by decide) c_9
                refine lv_aload_n hx hb dX4_readText_80 rfl (lv_at hl 0 rfl) ?_
                refine va_get (D := D) (ci := 4) (v := .int np) (C := RX4) (T := TX4) (N := 30) hx hb hts iX4 hown hK hP 0 rfl rfl 10 (by decide) (hts (.fieldLink RX4 87 "PunchedTicketModel" "readPeople" "I") (List.mem_of_getElem? (i := 3) rfl)) (fun _ h9 => h9) rfl dX4_readText_81 ?_
                refine lv_iconst (v := 5) hx hb dX4_readText_84 (by decide) ?_
                refine lv_icmp_ge (tgt := 161) hx hb dX4_readText_85 (by decide) (fun c_54 => ?_) (fun c_54 => ?_)
                · have tc_54 := b_le (show (5 : Int32).toInt = 5 by decide) rfl c_54
                  refine lv_aload_n hx hb dX4_readText_161 rfl (lv_at hl 0 rfl) ?_
                  refine va_get (D := D) (ci := 4) (v := .ref ytx) (C := RX4) (T := TX4) (N := 30) hx hb hts iX4 hown hK hP 0 rfl rfl 12 (by decide) (hts (.fieldLink RX4 34 "PunchedTicketModel" "text" "[I") (List.mem_of_getElem? (i := 6) rfl)) (fun _ h9 => h9) rfl dX4_readText_162 ?_
                  refine lv_aload_n hx hb dX4_readText_165 rfl (lv_at hl 0 rfl) ?_
                  refine va_get (D := D) (ci := 4) (v := .int na) (C := RX4) (T := TX4) (N := 30) hx hb hts iX4 hown hK hP 0 rfl rfl 14 (by decide) (hts (.fieldLink RX4 84 "PunchedTicketModel" "at" "I") (List.mem_of_getElem? (i := 1) rfl)) (fun _ h9 => h9) rfl dX4_readText_166 ?_
                  refine va_iald hx hb hK hP 1 0 rfl rfl (vp_in_iff.mpr ⟨by omega, by omega⟩) dX4_readText_169 ?_
                  refine lv_topi (fun v_55 ev_55 => ?_)
                  refine lv_bipush (v := 84) hx hb dX4_readText_170 (by decide) ?_
                  refine lv_icmp_ne (tgt := 309) hx hb dX4_readText_172 (by decide) (fun c_56 => ?_) (fun c_56 => ?_)
                  · have tc_56 := b_ne rfl (show (84 : Int32).toInt = 84 by decide) c_56
                    refine lv_aload_n hx hb dX4_readText_309 rfl (lv_at hl 0 rfl) ?_
                    refine lv_aload_n hx hb dX4_readText_310 rfl (lv_at hl 0 rfl) ?_
                    refine va_get (D := D) (ci := 4) (v := .int na) (C := RX4) (T := TX4) (N := 30) hx hb hts iX4 hown hK hP 0 rfl rfl 14 (by decide) (hts (.fieldLink RX4 84 "PunchedTicketModel" "at" "I") (List.mem_of_getElem? (i := 1) rfl)) (fun _ h9 => h9) rfl dX4_readText_311 ?_
                    refine va_put (D := D) (ci := 4) (v := .int na) (ty := .int) (C := RX4) (T := TX4) (N := 30) hx hb hts iX4 tyX4 tyX4_ok nmX4 hown hK hP hD hS 0 rfl rfl 15 (by decide) (hts (.fieldLink RX4 81 "PunchedTicketModel" "faultAt" "I") (List.mem_of_getElem? (i := 2) rfl)) (fun _ h9 => h9) rfl (by decide +kernel) rfl rfl (Nat.le_of_ble_eq_true rfl) dX4_readText_314 (fun H locs hP hD hS => ?_)
                    have hP : va_P D vwCl [(h0, .inr (4, [.int ype, .int ytk, .ref ywi, .ref yki, .ref yse, .ref yno, .ref yrh, .ref yrw, .ref yrk, .ref yrt, .int np, .int nq, .ref ytx, .int yle, .int na, .int na, .ref yby, .ref ylo, .ref yhi, .int yac, .int ynx, .ref yro, .ref ygl, .int ysn, .ref yso, .ref ysp, .ref ysw, .long ysd, .ref yik, .ref ykp])), (ytx, .inl (cI, 64, .inl Ftx)), (yrh, .inl (cI, 5, .inl grh)), (yrw, .inl (cI, 5, .inl grw)), (yrk, .inl (cI, 5, .inl grk)), (yrt, .inl (cI, 30, .inl grt))] H := hP
                    have hD : va_D A [(h0, .inr (4, [.int ype, .int ytk, .ref ywi, .ref yki, .ref yse, .ref yno, .ref yrh, .ref yrw, .ref yrk, .ref yrt, .int np, .int nq, .ref ytx, .int yle, .int na, .int na, .ref yby, .ref ylo, .ref yhi, .int yac, .int ynx, .ref yro, .ref ygl, .int ysn, .ref yso, .ref ysp, .ref ysw, .long ysd, .ref yik, .ref ykp])), (ytx, .inl (cI, 64, .inl Ftx)), (yrh, .inl (cI, 5, .inl grh)), (yrw, .inl (cI, 5, .inl grw)), (yrk, .inl (cI, 5, .inl grk)), (yrt, .inl (cI, 30, .inl grt))] := hD
                    refine lv_goto (tgt := 46) hx hb dX4_readText_317 (by decide) ?_
                    exact ih_5 np nq na na grh grw grk grt _ _ _ (show (200 * (65 - na.toInt) + (64 - na.toInt)).toNat < fu_4 by omega) (show 0 ≤ np.toInt ∧ np.toInt ≤ 5 by omega) (show 0 ≤ nq.toInt ∧ nq.toInt ≤ 6 by omega) (show 1 ≤ na.toInt ∧ na.toInt ≤ 64 by omega) (show -9 ≤ na.toInt ∧ na.toInt ≤ 64 by omega) hP hD hS (lv_sub hl [0] rfl)
                  · have tc_56 := b_eq rfl (show (84 : Int32).toInt = 84 by decide) c_56
                    refine lv_aload_n hx hb dX4_readText_175 rfl (lv_at hl 0 rfl) ?_
                    refine va_get (D := D) (ci := 4) (v := .int nq) (C := RX4) (T := TX4) (N := 30) hx hb hts iX4 hown hK hP 0 rfl rfl 11 (by decide) (hts (.fieldLink RX4 90 "PunchedTicketModel" "readTickets" "I") (List.mem_of_getElem? (i := 4) rfl)) (fun _ h9 => h9) rfl dX4_readText_176 ?_
                    refine lv_bipush (v := 6) hx hb dX4_readText_179 (by decide) ?_
                    refine lv_icmp_ge (tgt := 309) hx hb dX4_readText_181 (by decide) (fun c_57 => ?_) (fun c_57 => ?_)
                    · have tc_57 := b_le (show (6 : Int32).toInt = 6 by decide) rfl c_57
                      refine lv_aload_n hx hb dX4_readText_309 rfl (lv_at hl 0 rfl) ?_
                      refine lv_aload_n hx hb dX4_readText_310 rfl (lv_at hl 0 rfl) ?_
                      refine va_get (D := D) (ci := 4) (v := .int na) (C := RX4) (T := TX4) (N := 30) hx hb hts iX4 hown hK hP 0 rfl rfl 14 (by decide) (hts (.fieldLink RX4 84 "PunchedTicketModel" "at" "I") (List.mem_of_getElem? (i := 1) rfl)) (fun _ h9 => h9) rfl dX4_readText_311 ?_
                      refine va_put (D := D) (ci := 4) (v := .int na) (ty := .int) (C := RX4) (T := TX4) (N := 30) hx hb hts iX4 tyX4 tyX4_ok nmX4 hown hK hP hD hS 0 rfl rfl 15 (by decide) (hts (.fieldLink RX4 81 "PunchedTicketModel" "faultAt" "I") (List.mem_of_getElem? (i := 2) rfl)) (fun _ h9 => h9) rfl (by decide +kernel) rfl rfl (Nat.le_of_ble_eq_true rfl) dX4_readText_314 (fun H locs hP hD hS => ?_)
                      have hP : va_P D vwCl [(h0, .inr (4, [.int ype, .int ytk, .ref ywi, .ref yki, .ref yse, .ref yno, .ref yrh, .ref yrw, .ref yrk, .ref yrt, .int np, .int nq, .ref ytx, .int yle, .int na, .int na, .ref yby, .ref ylo, .ref yhi, .int yac, .int ynx, .ref yro, .ref ygl, .int ysn, .ref yso, .ref ysp, .ref ysw, .long ysd, .ref yik, .ref ykp])), (ytx, .inl (cI, 64, .inl Ftx)), (yrh, .inl (cI, 5, .inl grh)), (yrw, .inl (cI, 5, .inl grw)), (yrk, .inl (cI, 5, .inl grk)), (yrt, .inl (cI, 30, .inl grt))] H := hP
                      have hD : va_D A [(h0, .inr (4, [.int ype, .int ytk, .ref ywi, .ref yki, .ref yse, .ref yno, .ref yrh, .ref yrw, .ref yrk, .ref yrt, .int np, .int nq, .ref ytx, .int yle, .int na, .int na, .ref yby, .ref ylo, .ref yhi, .int yac, .int ynx, .ref yro, .ref ygl, .int ysn, .ref yso, .ref ysp, .ref ysw, .long ysd, .ref yik, .ref ykp])), (ytx, .inl (cI, 64, .inl Ftx)), (yrh, .inl (cI, 5, .inl grh)), (yrw, .inl (cI, 5, .inl grw)), (yrk, .inl (cI, 5, .inl grk)), (yrt, .inl (cI, 30, .inl grt))] := hD
                      refine lv_goto (tgt := 46) hx hb dX4_readText_317 (by decide) ?_
                      exact ih_5 np nq na na grh grw grk grt _ _ _ (show (200 * (65 - na.toInt) + (64 - na.toInt)).toNat < fu_4 by omega) (show 0 ≤ np.toInt ∧ np.toInt ≤ 5 by omega) (show 0 ≤ nq.toInt ∧ nq.toInt ≤ 6 by omega) (show 1 ≤ na.toInt ∧ na.toInt ≤ 64 by omega) (show -9 ≤ na.toInt ∧ na.toInt ≤ 64 by omega) hP hD hS (lv_sub hl [0] rfl)
                    · have tc_57 := b_nle (show (6 : Int32).toInt = 6 by decide) rfl c_57
                      refine lv_aload_n hx hb dX4_readText_184 rfl (lv_at hl 0 rfl) ?_
                      refine va_get (D := D) (ci := 4) (v := .int np) (C := RX4) (T := TX4) (N := 30) hx hb hts iX4 hown hK hP 0 rfl rfl 10 (by decide) (hts (.fieldLink RX4 87 "PunchedTicketModel" "readPeople" "I") (List.mem_of_getElem? (i := 3) rfl)) (fun _ h9 => h9) rfl dX4_readText_185 ?_
                      refine lv_if_le (tgt := 309) hx hb dX4_readText_188 (by decide) (fun c_58 => ?_) (fun c_58 => ?_)
                      · have tc_58 := b_le rfl (show (0 : Int32).toInt = 0 by decide) c_58
                        exfalso; omega
                      · have tc_58 := b_nle rfl (show (0 : Int32).toInt = 0 by decide) c_58
                        refine lv_aload_n hx hb dX4_readText_191 rfl (lv_at hl 0 rfl) ?_
                        refine lv_dup hx hb dX4_readText_192 rfl ?_
                        refine va_get (D := D) (ci := 4) (v := .int na) (C := RX4) (T := TX4) (N := 30) hx hb hts iX4 hown hK hP 0 rfl rfl 14 (by decide) (hts (.fieldLink RX4 84 "PunchedTicketModel" "at" "I") (List.mem_of_getElem? (i := 1) rfl)) (fun _ h9 => h9) rfl dX4_readText_193 ?_
                        refine lv_iconst (v := 1) hx hb dX4_readText_196 (by decide) ?_
                        refine lv_iadd hx hb dX4_readText_197 ?_
                        refine lv_topi (fun v_59 ev_59 => ?_)
                        have tv_59 : v_59.toInt = na.toInt + (1 : Int) := by rw [ev_59]; exact ti_add (x := na) (y := 1) (show -2147483648 ≤ na.toInt + (1 : Int) by omega) (show na.toInt + (1 : Int) < 2147483648 by omega)
                        refine va_put (D := D) (ci := 4) (v := .int v_59) (ty := .int) (C := RX4) (T := TX4) (N := 30) hx hb hts iX4 tyX4 tyX4_ok nmX4 hown hK hP hD hS 0 rfl rfl 14 (by decide) (hts (.fieldLink RX4 84 "PunchedTicketModel" "at" "I") (List.mem_of_getElem? (i := 1) rfl)) (fun _ h9 => h9) rfl (by decide +kernel) rfl rfl (Nat.le_of_ble_eq_true rfl) dX4_readText_198 (fun H locs hP hD hS => ?_)
                        have hP : va_P D vwCl [(h0, .inr (4, [.int ype, .int ytk, .ref ywi, .ref yki, .ref yse, .ref yno, .ref yrh, .ref yrw, .ref yrk, .ref yrt, .int np, .int nq, .ref ytx, .int yle, .int v_59, .int nf, .ref yby, .ref ylo, .ref yhi, .int yac, .int ynx, .ref yro, .ref ygl, .int ysn, .ref yso, .ref ysp, .ref ysw, .long ysd, .ref yik, .ref ykp])), (ytx, .inl (cI, 64, .inl Ftx)), (yrh, .inl (cI, 5, .inl grh)), (yrw, .inl (cI, 5, .inl grw)), (yrk, .inl (cI, 5, .inl grk)), (yrt, .inl (cI, 30, .inl grt))] H := hP
                        have hD : va_D A [(h0, .inr (4, [.int ype, .int ytk, .ref ywi, .ref yki, .ref yse, .ref yno, .ref yrh, .ref yrw, .ref yrk, .ref yrt, .int np, .int nq, .ref ytx, .int yle, .int v_59, .int nf, .ref yby, .ref ylo, .ref yhi, .int yac, .int ynx, .ref yro, .ref ygl, .int ysn, .ref yso, .ref ysp, .ref ysw, .long ysd, .ref yik, .ref ykp])), (ytx, .inl (cI, 64, .inl Ftx)), (yrh, .inl (cI, 5, .inl grh)), (yrw, .inl (cI, 5, .inl grw)), (yrk, .inl (cI, 5, .inl grk)), (yrt, .inl (cI, 30, .inl grt))] := hD
                        refine lv_iconst (v := 5) hx hb dX4_readText_201 (by decide) ?_
                        refine lv_aload_n hx hb dX4_readText_202 rfl (lv_at hl 0 rfl) ?_
                        refine va_get (D := D) (ci := 4) (v := .int nq) (C := RX4) (T := TX4) (N := 30) hx hb hts iX4 hown hK hP 0 rfl rfl 11 (by decide) (hts (.fieldLink RX4 90 "PunchedTicketModel" "readTickets" "I") (List.mem_of_getElem? (i := 4) rfl)) (fun _ h9 => h9) rfl dX4_readText_203 ?_
                        refine lv_imul hx hb dX4_readText_206 ?_
                        refine lv_topi (fun v_60 ev_60 => ?_)
                        have tv_60 : v_60.toInt = (5 : Int) * nq.toInt := by rw [ev_60]; exact ti_mul (x := 5) (y := nq) (show -2147483648 ≤ (5 : Int) * nq.toInt by omega) (show (5 : Int) * nq.toInt < 2147483648 by omega)
                        refine lv_istore_n (lv' := [(1, .int v_60), (0, .ref h0)]) hx hb dX4_readText_207 rfl hl (by decide) rfl (fun ls hl => ?_)
                        refine lv_aload_n hx hb dX4_readText_208 rfl (lv_at hl 1 rfl) ?_
                        refine va_get (D := D) (ci := 4) (v := .ref yrt) (C := RX4) (T := TX4) (N := 30) hx hb hts iX4 hown hK hP 0 rfl rfl 9 (by decide) (hts (.fieldLink RX4 31 "PunchedTicketModel" "readTicket" "[I") (List.mem_of_getElem? (i := 10) rfl)) (fun _ h9 => h9) rfl dX4_readText_209 ?_
                        refine lv_iload_n hx hb dX4_readText_212 rfl (lv_at hl 0 rfl) ?_
                        refine lv_aload_n hx hb dX4_readText_213 rfl (lv_at hl 1 rfl) ?_
                        refine lv_bipush (v := 9) hx hb dX4_readText_214 (by decide) ?_
                        refine lv_bipush (v := (-9)) hx hb dX4_readText_216 (by decide) ?_
                        refine cV_i (As := [.int 9, .int (-9)]) (rest := [.int v_60, .ref yrt]) ⟨hx, hb, hml, hown, hts⟩ (c_X4_figure l D cI cZ cM h0 9 (-9) ype ytk ywi yki yse yno yrh yrw yrk yrt np nq ytx yle v_59 nf yby ylo yhi yac ynx yro ygl ysn yso ysp ysw ysd yik ykp Ftx _ (show 0 ≤ v_59.toInt ∧ v_59.toInt ≤ 64 by omega) (show -9 ≤ nf.toInt ∧ nf.toInt ≤ 64 by omega) (show 0 ≤ yle.toInt ∧ yle.toInt ≤ 64 by omega)) (cwV 2 hts gX4_readText_X4_figure rfl rfl rfl (by decide +kernel) ⟨by rw [hR]; decide, by rw [hR]; decide⟩) hK hP hD hS hA [0, 1] [2, 3, 4, 5] rfl rfl (by decide) (by decide) (by decide) rfl 0 rfl hl.1 rfl rfl (Nat.le_of_ble_eq_true rfl) dX4_readText_218 ⟨by rw [hR]; decide, by rw [hR]; decide⟩ (fun r_63 u_64 H locs hw hP hD hS => ?_)
                        obtain ⟨at1_61, fa1_62⟩ := u_64
                        have hP : va_P D vwCl [(h0, .inr (4, [.int ype, .int ytk, .ref ywi, .ref yki, .ref yse, .ref yno, .ref yrh, .ref yrw, .ref yrk, .ref yrt, .int np, .int nq, .ref ytx, .int yle, .int at1_61, .int fa1_62, .ref yby, .ref ylo, .ref yhi, .int yac, .int ynx, .ref yro, .ref ygl, .int ysn, .ref yso, .ref ysp, .ref ysw, .long ysd, .ref yik, .ref ykp])), (ytx, .inl (cI, 64, .inl Ftx)), (yrh, .inl (cI, 5, .inl grh)), (yrw, .inl (cI, 5, .inl grw)), (yrk, .inl (cI, 5, .inl grk)), (yrt, .inl (cI, 30, .inl grt))] H := hP.sub [4, 5, 0, 1, 2, 3] rfl
                        have hD : va_D A [(h0, .inr (4, [.int ype, .int ytk, .ref ywi, .ref yki, .ref yse, .ref yno, .ref yrh, .ref yrw, .ref yrk, .ref yrt, .int np, .int nq, .ref ytx, .int yle, .int at1_61, .int fa1_62, .ref yby, .ref ylo, .ref yhi, .int yac, .int ynx, .ref yro, .ref ygl, .int ysn, .ref yso, .ref ysp, .ref ysw, .long ysd, .ref yik, .ref ykp])), (ytx, .inl (cI, 64, .inl Ftx)), (yrh, .inl (cI, 5, .inl grh)), (yrw, .inl (cI, 5, .inl grw)), (yrk, .inl (cI, 5, .inl grk)), (yrt, .inl (cI, 30, .inl grt))] := hD.sub [4, 5, 0, 1, 2, 3] (by decide) rfl
                        refine W.widen (k := 0) (n := 0) (Nat.le_refl _) (Nat.le_refl _) ?_
                        have hw : 0 ≤ at1_61.toInt ∧ at1_61.toInt ≤ 64 ∧ v_59.toInt ≤ at1_61.toInt ∧ -9 ≤ fa1_62.toInt ∧ fa1_62.toInt ≤ 64 ∧ nf.toInt ≤ fa1_62.toInt := hw
                        have hw_65 := hw
                        obtain ⟨hw_65a, hw_65b, hw_65c, hw_65d, hw_65e, hw_65f⟩ := hw_65
                        refine va_iast hx hb hK hP hD hS 5 0 rfl rfl (vp_in_iff.mpr ⟨by omega, by omega⟩) dX4_readText_221 (fun H locs hP hD hS => ?_)
                        obtain ⟨f_66, ef_66⟩ : ∃ g : Nat → Int32, upd grt (v_60 : Int32).toNatClampNeg r_63 = g := ⟨_, rfl⟩
                        rw [ef_66] at hP hD
                        have hP : va_P D vwCl [(h0, .inr (4, [.int ype, .int ytk, .ref ywi, .ref yki, .ref yse, .ref yno, .ref yrh, .ref yrw, .ref yrk, .ref yrt, .int np, .int nq, .ref ytx, .int yle, .int at1_61, .int fa1_62, .ref yby, .ref ylo, .ref yhi, .int yac, .int ynx, .ref yro, .ref ygl, .int ysn, .ref yso, .ref ysp, .ref ysw, .long ysd, .ref yik, .ref ykp])), (ytx, .inl (cI, 64, .inl Ftx)), (yrh, .inl (cI, 5, .inl grh)), (yrw, .inl (cI, 5, .inl grw)), (yrk, .inl (cI, 5, .inl grk)), (yrt, .inl (cI, 30, .inl f_66))] H := hP
                        have hD : va_D A [(h0, .inr (4, [.int ype, .int ytk, .ref ywi, .ref yki, .ref yse, .ref yno, .ref yrh, .ref yrw, .ref yrk, .ref yrt, .int np, .int nq, .ref ytx, .int yle, .int at1_61, .int fa1_62, .ref yby, .ref ylo, .ref yhi, .int yac, .int ynx, .ref yro, .ref ygl, .int ysn, .ref yso, .ref ysp, .ref ysw, .long ysd, .ref yik, .ref ykp])), (ytx, .inl (cI, 64, .inl Ftx)), (yrh, .inl (cI, 5, .inl grh)), (yrw, .inl (cI, 5, .inl grw)), (yrk, .inl (cI, 5, .inl grk)), (yrt, .inl (cI, 30, .inl f_66))] := hD
                        refine lv_aload_n hx hb dX4_readText_222 rfl (lv_at hl 1 rfl) ?_
                        refine va_get (D := D) (ci := 4) (v := .ref yrt) (C := RX4) (T := TX4) (N := 30) hx hb hts iX4 hown hK hP 0 rfl rfl 9 (by decide) (hts (.fieldLink RX4 31 "PunchedTicketModel" "readTicket" "[I") (List.mem_of_getElem? (i := 10) rfl)) (fun _ h9 => h9) rfl dX4_readText_223 ?_
                        refine lv_iload_n hx hb dX4_readText_226 rfl (lv_at hl 0 rfl) ?_
                        refine lv_iconst (v := 1) hx hb dX4_readText_227 (by decide) ?_
                        refine lv_iadd hx hb dX4_readText_228 ?_
                        refine lv_topi (fun v_67 ev_67 => ?_)
                        have tv_67 : v_67.toInt = v_60.toInt + (1 : Int) := by rw [ev_67]; exact ti_add (x := v_60) (y := 1) (show -2147483648 ≤ v_60.toInt + (1 : Int) by omega) (show v_60.toInt + (1 : Int) < 2147483648 by omega)
                        refine lv_aload_n hx hb dX4_readText_229 rfl (lv_at hl 1 rfl) ?_
                        refine lv_bipush (v := 9) hx hb dX4_readText_230 (by decide) ?_
                        refine lv_bipush (v := (-9)) hx hb dX4_readText_232 (by decide) ?_
                        refine cV_i (As := [.int 9, .int (-9)]) (rest := [.int v_67, .ref yrt]) ⟨hx, hb, hml, hown, hts⟩ (c_X4_figure l D cI cZ cM h0 9 (-9) ype ytk ywi yki yse yno yrh yrw yrk yrt np nq ytx yle at1_61 fa1_62 yby ylo yhi yac ynx yro ygl ysn yso ysp ysw ysd yik ykp Ftx _ (show 0 ≤ at1_61.toInt ∧ at1_61.toInt ≤ 64 by omega) (show -9 ≤ fa1_62.toInt ∧ fa1_62.toInt ≤ 64 by omega) (show 0 ≤ yle.toInt ∧ yle.toInt ≤ 64 by omega)) (cwV 2 hts gX4_readText_X4_figure rfl rfl rfl (by decide +kernel) ⟨by rw [hR]; decide, by rw [hR]; decide⟩) hK hP hD hS hA [0, 1] [2, 3, 4, 5] rfl rfl (by decide) (by decide) (by decide) rfl 0 rfl hl.1 rfl rfl (Nat.le_of_ble_eq_true rfl) dX4_readText_234 ⟨by rw [hR]; decide, by rw [hR]; decide⟩ (fun r_70 u_71 H locs hw hP hD hS => ?_)
                        obtain ⟨at1_68, fa1_69⟩ := u_71
                        have hP : va_P D vwCl [(h0, .inr (4, [.int ype, .int ytk, .ref ywi, .ref yki, .ref yse, .ref yno, .ref yrh, .ref yrw, .ref yrk, .ref yrt, .int np, .int nq, .ref ytx, .int yle, .int at1_68, .int fa1_69, .ref yby, .ref ylo, .ref yhi, .int yac, .int ynx, .ref yro, .ref ygl, .int ysn, .ref yso, .ref ysp, .ref ysw, .long ysd, .ref yik, .ref ykp])), (ytx, .inl (cI, 64, .inl Ftx)), (yrh, .inl (cI, 5, .inl grh)), (yrw, .inl (cI, 5, .inl grw)), (yrk, .inl (cI, 5, .inl grk)), (yrt, .inl (cI, 30, .inl f_66))] H := hP.sub [4, 5, 0, 1, 2, 3] rfl
                        have hD : va_D A [(h0, .inr (4, [.int ype, .int ytk, .ref ywi, .ref yki, .ref yse, .ref yno, .ref yrh, .ref yrw, .ref yrk, .ref yrt, .int np, .int nq, .ref ytx, .int yle, .int at1_68, .int fa1_69, .ref yby, .ref ylo, .ref yhi, .int yac, .int ynx, .ref yro, .ref ygl, .int ysn, .ref yso, .ref ysp, .ref ysw, .long ysd, .ref yik, .ref ykp])), (ytx, .inl (cI, 64, .inl Ftx)), (yrh, .inl (cI, 5, .inl grh)), (yrw, .inl (cI, 5, .inl grw)), (yrk, .inl (cI, 5, .inl grk)), (yrt, .inl (cI, 30, .inl f_66))] := hD.sub [4, 5, 0, 1, 2, 3] (by decide) rfl
                        refine W.widen (k := 0) (n := 0) (Nat.le_refl _) (Nat.le_refl _) ?_
                        have hw : 0 ≤ at1_68.toInt ∧ at1_68.toInt ≤ 64 ∧ at1_61.toInt ≤ at1_68.toInt ∧ -9 ≤ fa1_69.toInt ∧ fa1_69.toInt ≤ 64 ∧ fa1_62.toInt ≤ fa1_69.toInt := hw
                        have hw_72 := hw
                        obtain ⟨hw_72a, hw_72b, hw_72c, hw_72d, hw_72e, hw_72f⟩ := hw_72
                        refine va_iast hx hb hK hP hD hS 5 0 rfl rfl (vp_in_iff.mpr ⟨by omega, by omega⟩) dX4_readText_237 (fun H locs hP hD hS => ?_)
                        obtain ⟨f_73, ef_73⟩ : ∃ g : Nat → Int32, upd f_66 (v_67 : Int32).toNatClampNeg r_70 = g := ⟨_, rfl⟩
                        rw [ef_73] at hP hD
                        have hP : va_P D vwCl [(h0, .inr (4, [.int ype, .int ytk, .ref ywi, .ref yki, .ref yse, .ref yno, .ref yrh, .ref yrw, .ref yrk, .ref yrt, .int np, .int nq, .ref ytx, .int yle, .int at1_68, .int fa1_69, .ref yby, .ref ylo, .ref yhi, .int yac, .int ynx, .ref yro, .ref ygl, .int ysn, .ref yso, .ref ysp, .ref ysw, .long ysd, .ref yik, .ref ykp])), (ytx, .inl (cI, 64, .inl Ftx)), (yrh, .inl (cI, 5, .inl grh)), (yrw, .inl (cI, 5, .inl grw)), (yrk, .inl (cI, 5, .inl grk)), (yrt, .inl (cI, 30, .inl f_73))] H := hP
                        have hD : va_D A [(h0, .inr (4, [.int ype, .int ytk, .ref ywi, .ref yki, .ref yse, .ref yno, .ref yrh, .ref yrw, .ref yrk, .ref yrt, .int np, .int nq, .ref ytx, .int yle, .int at1_68, .int fa1_69, .ref yby, .ref ylo, .ref yhi, .int yac, .int ynx, .ref yro, .ref ygl, .int ysn, .ref yso, .ref ysp, .ref ysw, .long ysd, .ref yik, .ref ykp])), (ytx, .inl (cI, 64, .inl Ftx)), (yrh, .inl (cI, 5, .inl grh)), (yrw, .inl (cI, 5, .inl grw)), (yrk, .inl (cI, 5, .inl grk)), (yrt, .inl (cI, 30, .inl f_73))] := hD
                        refine lv_aload_n hx hb dX4_readText_238 rfl (lv_at hl 1 rfl) ?_
                        refine va_get (D := D) (ci := 4) (v := .ref yrt) (C := RX4) (T := TX4) (N := 30) hx hb hts iX4 hown hK hP 0 rfl rfl 9 (by decide) (hts (.fieldLink RX4 31 "PunchedTicketModel" "readTicket" "[I") (List.mem_of_getElem? (i := 10) rfl)) (fun _ h9 => h9) rfl dX4_readText_239 ?_
                        refine lv_iload_n hx hb dX4_readText_242 rfl (lv_at hl 0 rfl) ?_
                        refine lv_iconst (v := 2) hx hb dX4_readText_243 (by decide) ?_
                        refine lv_iadd hx hb dX4_readText_244 ?_
                        refine lv_topi (fun v_74 ev_74 => ?_)
                        have tv_74 : v_74.toInt = v_60.toInt + (2 : Int) := by rw [ev_74]; exact ti_add (x := v_60) (y := 2) (show -2147483648 ≤ v_60.toInt + (2 : Int) by omega) (show v_60.toInt + (2 : Int) < 2147483648 by omega)
                        refine lv_aload_n hx hb dX4_readText_245 rfl (lv_at hl 1 rfl) ?_
                        refine lv_bipush (v := 9) hx hb dX4_readText_246 (by decide) ?_
                        refine lv_aload_n hx hb dX4_readText_248 rfl (lv_at hl 1 rfl) ?_
                        refine va_get (D := D) (ci := 4) (v := .ref yrt) (C := RX4) (T := TX4) (N := 30) hx hb hts iX4 hown hK hP 0 rfl rfl 9 (by decide) (hts (.fieldLink RX4 31 "PunchedTicketModel" "readTicket" "[I") (List.mem_of_getElem? (i := 10) rfl)) (fun _ h9 => h9) rfl dX4_readText_249 ?_
                        refine lv_iload_n hx hb dX4_readText_252 rfl (lv_at hl 0 rfl) ?_
                        refine lv_iconst (v := 1) hx hb dX4_readText_253 (by decide) ?_
                        refine lv_iadd hx hb dX4_readText_254 ?_
                        refine lv_topi (fun v_75 ev_75 => ?_)
                        have tv_75 : v_75.toInt = v_60.toInt + (1 : Int) := by rw [ev_75]; exact ti_add (x := v_60) (y := 1) (show -2147483648 ≤ v_60.toInt + (1 : Int) by omega) (show v_60.toInt + (1 : Int) < 2147483648 by omega)
                        refine va_iald hx hb hK hP 5 0 rfl rfl (vp_in_iff.mpr ⟨by omega, by omega⟩) dX4_readText_255 ?_
                        refine lv_topi (fun v_76 ev_76 => ?_)
                        refine cV_i (As := [.int 9, .int v_76]) (rest := [.int v_74, .ref yrt]) ⟨hx, hb, hml, hown, hts⟩ (c_X4_figure l D cI cZ cM h0 9 v_76 ype ytk ywi yki yse yno yrh yrw yrk yrt np nq ytx yle at1_68 fa1_69 yby ylo yhi yac ynx yro ygl ysn yso ysp ysw ysd yik ykp Ftx _ (show 0 ≤ at1_68.toInt ∧ at1_68.toInt ≤ 64 by omega) (show -9 ≤ fa1_69.toInt ∧ fa1_69.toInt ≤ 64 by omega) (show 0 ≤ yle.toInt ∧ yle.toInt ≤ 64 by omega)) (cwV 2 hts gX4_readText_X4_figure rfl rfl rfl (by decide +kernel) ⟨by rw [hR]; decide, by rw [hR]; decide⟩) hK hP hD hS hA [0, 1] [2, 3, 4, 5] rfl rfl (by decide) (by decide) (by decide) rfl 0 rfl hl.1 rfl rfl (Nat.le_of_ble_eq_true rfl) dX4_readText_256 ⟨by rw [hR]; decide, by rw [hR]; decide⟩ (fun r_79 u_80 H locs hw hP hD hS => ?_)
                        obtain ⟨at1_77, fa1_78⟩ := u_80
                        have hP : va_P D vwCl [(h0, .inr (4, [.int ype, .int ytk, .ref ywi, .ref yki, .ref yse, .ref yno, .ref yrh, .ref yrw, .ref yrk, .ref yrt, .int np, .int nq, .ref ytx, .int yle, .int at1_77, .int fa1_78, .ref yby, .ref ylo, .ref yhi, .int yac, .int ynx, .ref yro, .ref ygl, .int ysn, .ref yso, .ref ysp, .ref ysw, .long ysd, .ref yik, .ref ykp])), (ytx, .inl (cI, 64, .inl Ftx)), (yrh, .inl (cI, 5, .inl grh)), (yrw, .inl (cI, 5, .inl grw)), (yrk, .inl (cI, 5, .inl grk)), (yrt, .inl (cI, 30, .inl f_73))] H := hP.sub [4, 5, 0, 1, 2, 3] rfl
                        have hD : va_D A [(h0, .inr (4, [.int ype, .int ytk, .ref ywi, .ref yki, .ref yse, .ref yno, .ref yrh, .ref yrw, .ref yrk, .ref yrt, .int np, .int nq, .ref ytx, .int yle, .int at1_77, .int fa1_78, .ref yby, .ref ylo, .ref yhi, .int yac, .int ynx, .ref yro, .ref ygl, .int ysn, .ref yso, .ref ysp, .ref ysw, .long ysd, .ref yik, .ref ykp])), (ytx, .inl (cI, 64, .inl Ftx)), (yrh, .inl (cI, 5, .inl grh)), (yrw, .inl (cI, 5, .inl grw)), (yrk, .inl (cI, 5, .inl grk)), (yrt, .inl (cI, 30, .inl f_73))] := hD.sub [4, 5, 0, 1, 2, 3] (by decide) rfl
                        refine W.widen (k := 0) (n := 0) (Nat.le_refl _) (Nat.le_refl _) ?_
                        have hw : 0 ≤ at1_77.toInt ∧ at1_77.toInt ≤ 64 ∧ at1_68.toInt ≤ at1_77.toInt ∧ -9 ≤ fa1_78.toInt ∧ fa1_78.toInt ≤ 64 ∧ fa1_69.toInt ≤ fa1_78.toInt := hw
                        have hw_81 := hw
                        obtain ⟨hw_81a, hw_81b, hw_81c, hw_81d, hw_81e, hw_81f⟩ := hw_81
                        refine va_iast hx hb hK hP hD hS 5 0 rfl rfl (vp_in_iff.mpr ⟨by omega, by omega⟩) dX4_readText_259 (fun H locs hP hD hS => ?_)
                        obtain ⟨f_82, ef_82⟩ : ∃ g : Nat → Int32, upd f_73 (v_74 : Int32).toNatClampNeg r_79 = g := ⟨_, rfl⟩
                        rw [ef_82] at hP hD
                        have hP : va_P D vwCl [(h0, .inr (4, [.int ype, .int ytk, .ref ywi, .ref yki, .ref yse, .ref yno, .ref yrh, .ref yrw, .ref yrk, .ref yrt, .int np, .int nq, .ref ytx, .int yle, .int at1_77, .int fa1_78, .ref yby, .ref ylo, .ref yhi, .int yac, .int ynx, .ref yro, .ref ygl, .int ysn, .ref yso, .ref ysp, .ref ysw, .long ysd, .ref yik, .ref ykp])), (ytx, .inl (cI, 64, .inl Ftx)), (yrh, .inl (cI, 5, .inl grh)), (yrw, .inl (cI, 5, .inl grw)), (yrk, .inl (cI, 5, .inl grk)), (yrt, .inl (cI, 30, .inl f_82))] H := hP
                        have hD : va_D A [(h0, .inr (4, [.int ype, .int ytk, .ref ywi, .ref yki, .ref yse, .ref yno, .ref yrh, .ref yrw, .ref yrk, .ref yrt, .int np, .int nq, .ref ytx, .int yle, .int at1_77, .int fa1_78, .ref yby, .ref ylo, .ref yhi, .int yac, .int ynx, .ref yro, .ref ygl, .int ysn, .ref yso, .ref ysp, .ref ysw, .long ysd, .ref yik, .ref ykp])), (ytx, .inl (cI, 64, .inl Ftx)), (yrh, .inl (cI, 5, .inl grh)), (yrw, .inl (cI, 5, .inl grw)), (yrk, .inl (cI, 5, .inl grk)), (yrt, .inl (cI, 30, .inl f_82))] := hD
                        refine lv_aload_n hx hb dX4_readText_260 rfl (lv_at hl 1 rfl) ?_
                        refine va_get (D := D) (ci := 4) (v := .ref yrt) (C := RX4) (T := TX4) (N := 30) hx hb hts iX4 hown hK hP 0 rfl rfl 9 (by decide) (hts (.fieldLink RX4 31 "PunchedTicketModel" "readTicket" "[I") (List.mem_of_getElem? (i := 10) rfl)) (fun _ h9 => h9) rfl dX4_readText_261 ?_
                        refine lv_iload_n hx hb dX4_readText_264 rfl (lv_at hl 0 rfl) ?_
                        refine lv_iconst (v := 3) hx hb dX4_readText_265 (by decide) ?_
                        refine lv_iadd hx hb dX4_readText_266 ?_
                        refine lv_topi (fun v_83 ev_83 => ?_)
                        have tv_83 : v_83.toInt = v_60.toInt + (3 : Int) := by rw [ev_83]; exact ti_add (x := v_60) (y := 3) (show -2147483648 ≤ v_60.toInt + (3 : Int) by omega) (show v_60.toInt + (3 : Int) < 2147483648 by omega)
                        refine lv_aload_n hx hb dX4_readText_267 rfl (lv_at hl 1 rfl) ?_
                        refine lv_bipush (v := 9) hx hb dX4_readText_268 (by decide) ?_
                        refine lv_bipush (v := (-9)) hx hb dX4_readText_270 (by decide) ?_
                        refine cV_i (As := [.int 9, .int (-9)]) (rest := [.int v_83, .ref yrt]) ⟨hx, hb, hml, hown, hts⟩ (c_X4_figure l D cI cZ cM h0 9 (-9) ype ytk ywi yki yse yno yrh yrw yrk yrt np nq ytx yle at1_77 fa1_78 yby ylo yhi yac ynx yro ygl ysn yso ysp ysw ysd yik ykp Ftx _ (show 0 ≤ at1_77.toInt ∧ at1_77.toInt ≤ 64 by omega) (show -9 ≤ fa1_78.toInt ∧ fa1_78.toInt ≤ 64 by omega) (show 0 ≤ yle.toInt ∧ yle.toInt ≤ 64 by omega)) (cwV 2 hts gX4_readText_X4_figure rfl rfl rfl (by decide +kernel) ⟨by rw [hR]; decide, by rw [hR]; decide⟩) hK hP hD hS hA [0, 1] [2, 3, 4, 5] rfl rfl (by decide) (by decide) (by decide) rfl 0 rfl hl.1 rfl rfl (Nat.le_of_ble_eq_true rfl) dX4_readText_272 ⟨by rw [hR]; decide, by rw [hR]; decide⟩ (fun r_86 u_87 H locs hw hP hD hS => ?_)
                        obtain ⟨at1_84, fa1_85⟩ := u_87
                        have hP : va_P D vwCl [(h0, .inr (4, [.int ype, .int ytk, .ref ywi, .ref yki, .ref yse, .ref yno, .ref yrh, .ref yrw, .ref yrk, .ref yrt, .int np, .int nq, .ref ytx, .int yle, .int at1_84, .int fa1_85, .ref yby, .ref ylo, .ref yhi, .int yac, .int ynx, .ref yro, .ref ygl, .int ysn, .ref yso, .ref ysp, .ref ysw, .long ysd, .ref yik, .ref ykp])), (ytx, .inl (cI, 64, .inl Ftx)), (yrh, .inl (cI, 5, .inl grh)), (yrw, .inl (cI, 5, .inl grw)), (yrk, .inl (cI, 5, .inl grk)), (yrt, .inl (cI, 30, .inl f_82))] H := hP.sub [4, 5, 0, 1, 2, 3] rfl
                        have hD : va_D A [(h0, .inr (4, [.int ype, .int ytk, .ref ywi, .ref yki, .ref yse, .ref yno, .ref yrh, .ref yrw, .ref yrk, .ref yrt, .int np, .int nq, .ref ytx, .int yle, .int at1_84, .int fa1_85, .ref yby, .ref ylo, .ref yhi, .int yac, .int ynx, .ref yro, .ref ygl, .int ysn, .ref yso, .ref ysp, .ref ysw, .long ysd, .ref yik, .ref ykp])), (ytx, .inl (cI, 64, .inl Ftx)), (yrh, .inl (cI, 5, .inl grh)), (yrw, .inl (cI, 5, .inl grw)), (yrk, .inl (cI, 5, .inl grk)), (yrt, .inl (cI, 30, .inl f_82))] := hD.sub [4, 5, 0, 1, 2, 3] (by decide) rfl
                        refine W.widen (k := 0) (n := 0) (Nat.le_refl _) (Nat.le_refl _) ?_
                        have hw : 0 ≤ at1_84.toInt ∧ at1_84.toInt ≤ 64 ∧ at1_77.toInt ≤ at1_84.toInt ∧ -9 ≤ fa1_85.toInt ∧ fa1_85.toInt ≤ 64 ∧ fa1_78.toInt ≤ fa1_85.toInt := hw
                        have hw_88 := hw
                        obtain ⟨hw_88a, hw_88b, hw_88c, hw_88d, hw_88e, hw_88f⟩ := hw_88
                        refine va_iast hx hb hK hP hD hS 5 0 rfl rfl (vp_in_iff.mpr ⟨by omega, by omega⟩) dX4_readText_275 (fun H locs hP hD hS => ?_)
                        obtain ⟨f_89, ef_89⟩ : ∃ g : Nat → Int32, upd f_82 (v_83 : Int32).toNatClampNeg r_86 = g := ⟨_, rfl⟩
                        rw [ef_89] at hP hD
                        have hP : va_P D vwCl [(h0, .inr (4, [.int ype, .int ytk, .ref ywi, .ref yki, .ref yse, .ref yno, .ref yrh, .ref yrw, .ref yrk, .ref yrt, .int np, .int nq, .ref ytx, .int yle, .int at1_84, .int fa1_85, .ref yby, .ref ylo, .ref yhi, .int yac, .int ynx, .ref yro, .ref ygl, .int ysn, .ref yso, .ref ysp, .ref ysw, .long ysd, .ref yik, .ref ykp])), (ytx, .inl (cI, 64, .inl Ftx)), (yrh, .inl (cI, 5, .inl grh)), (yrw, .inl (cI, 5, .inl grw)), (yrk, .inl (cI, 5, .inl grk)), (yrt, .inl (cI, 30, .inl f_89))] H := hP
                        have hD : va_D A [(h0, .inr (4, [.int ype, .int ytk, .ref ywi, .ref yki, .ref yse, .ref yno, .ref yrh, .ref yrw, .ref yrk, .ref yrt, .int np, .int nq, .ref ytx, .int yle, .int at1_84, .int fa1_85, .ref yby, .ref ylo, .ref yhi, .int yac, .int ynx, .ref yro, .ref ygl, .int ysn, .ref yso, .ref ysp, .ref ysw, .long ysd, .ref yik, .ref ykp])), (ytx, .inl (cI, 64, .inl Ftx)), (yrh, .inl (cI, 5, .inl grh)), (yrw, .inl (cI, 5, .inl grw)), (yrk, .inl (cI, 5, .inl grk)), (yrt, .inl (cI, 30, .inl f_89))] := hD
                        refine lv_aload_n hx hb dX4_readText_276 rfl (lv_at hl 1 rfl) ?_
                        refine va_get (D := D) (ci := 4) (v := .ref yrt) (C := RX4) (T := TX4) (N := 30) hx hb hts iX4 hown hK hP 0 rfl rfl 9 (by decide) (hts (.fieldLink RX4 31 "PunchedTicketModel" "readTicket" "[I") (List.mem_of_getElem? (i := 10) rfl)) (fun _ h9 => h9) rfl dX4_readText_277 ?_
                        refine lv_iload_n hx hb dX4_readText_280 rfl (lv_at hl 0 rfl) ?_
                        refine lv_iconst (v := 4) hx hb dX4_readText_281 (by decide) ?_
                        refine lv_iadd hx hb dX4_readText_282 ?_
                        refine lv_topi (fun v_90 ev_90 => ?_)
                        have tv_90 : v_90.toInt = v_60.toInt + (4 : Int) := by rw [ev_90]; exact ti_add (x := v_60) (y := 4) (show -2147483648 ≤ v_60.toInt + (4 : Int) by omega) (show v_60.toInt + (4 : Int) < 2147483648 by omega)
                        refine lv_aload_n hx hb dX4_readText_283 rfl (lv_at hl 1 rfl) ?_
                        refine lv_aload_n hx hb dX4_readText_284 rfl (lv_at hl 1 rfl) ?_
                        refine va_get (D := D) (ci := 4) (v := .int np) (C := RX4) (T := TX4) (N := 30) hx hb hts iX4 hown hK hP 0 rfl rfl 10 (by decide) (hts (.fieldLink RX4 87 "PunchedTicketModel" "readPeople" "I") (List.mem_of_getElem? (i := 3) rfl)) (fun _ h9 => h9) rfl dX4_readText_285 ?_
                        refine lv_iconst (v := 1) hx hb dX4_readText_288 (by decide) ?_
                        refine lv_isub hx hb dX4_readText_289 ?_
                        refine lv_topi (fun v_91 ev_91 => ?_)
                        have tv_91 : v_91.toInt = np.toInt - (1 : Int) := by rw [ev_91]; exact ti_sub (x := np) (y := 1) (show -2147483648 ≤ np.toInt - (1 : Int) by omega) (show np.toInt - (1 : Int) < 2147483648 by omega)
                        refine lv_bipush (v := (-9)) hx hb dX4_readText_290 (by decide) ?_
                        refine cV_i (As := [.int v_91, .int (-9)]) (rest := [.int v_90, .ref yrt]) ⟨hx, hb, hml, hown, hts⟩ (c_X4_figure l D cI cZ cM h0 v_91 (-9) ype ytk ywi yki yse yno yrh yrw yrk yrt np nq ytx yle at1_84 fa1_85 yby ylo yhi yac ynx yro ygl ysn yso ysp ysw ysd yik ykp Ftx _ (show 0 ≤ at1_84.toInt ∧ at1_84.toInt ≤ 64 by omega) (show -9 ≤ fa1_85.toInt ∧ fa1_85.toInt ≤ 64 by omega) (show 0 ≤ yle.toInt ∧ yle.toInt ≤ 64 by omega)) (cwV 2 hts gX4_readText_X4_figure rfl rfl rfl (by decide +kernel) ⟨by rw [hR]; decide, by rw [hR]; decide⟩) hK hP hD hS hA [0, 1] [2, 3, 4, 5] rfl rfl (by decide) (by decide) (by decide) rfl 0 rfl hl.1 rfl rfl (Nat.le_of_ble_eq_true rfl) dX4_readText_292 ⟨by rw [hR]; decide, by rw [hR]; decide⟩ (fun r_94 u_95 H locs hw hP hD hS => ?_)
                        obtain ⟨at1_92, fa1_93⟩ := u_95
                        have hP : va_P D vwCl [(h0, .inr (4, [.int ype, .int ytk, .ref ywi, .ref yki, .ref yse, .ref yno, .ref yrh, .ref yrw, .ref yrk, .ref yrt, .int np, .int nq, .ref ytx, .int yle, .int at1_92, .int fa1_93, .ref yby, .ref ylo, .ref yhi, .int yac, .int ynx, .ref yro, .ref ygl, .int ysn, .ref yso, .ref ysp, .ref ysw, .long ysd, .ref yik, .ref ykp])), (ytx, .inl (cI, 64, .inl Ftx)), (yrh, .inl (cI, 5, .inl grh)), (yrw, .inl (cI, 5, .inl grw)), (yrk, .inl (cI, 5, .inl grk)), (yrt, .inl (cI, 30, .inl f_89))] H := hP.sub [4, 5, 0, 1, 2, 3] rfl
                        have hD : va_D A [(h0, .inr (4, [.int ype, .int ytk, .ref ywi, .ref yki, .ref yse, .ref yno, .ref yrh, .ref yrw, .ref yrk, .ref yrt, .int np, .int nq, .ref ytx, .int yle, .int at1_92, .int fa1_93, .ref yby, .ref ylo, .ref yhi, .int yac, .int ynx, .ref yro, .ref ygl, .int ysn, .ref yso, .ref ysp, .ref ysw, .long ysd, .ref yik, .ref ykp])), (ytx, .inl (cI, 64, .inl Ftx)), (yrh, .inl (cI, 5, .inl grh)), (yrw, .inl (cI, 5, .inl grw)), (yrk, .inl (cI, 5, .inl grk)), (yrt, .inl (cI, 30, .inl f_89))] := hD.sub [4, 5, 0, 1, 2, 3] (by decide) rfl
                        refine W.widen (k := 0) (n := 0) (Nat.le_refl _) (Nat.le_refl _) ?_
                        have hw : 0 ≤ at1_92.toInt ∧ at1_92.toInt ≤ 64 ∧ at1_84.toInt ≤ at1_92.toInt ∧ -9 ≤ fa1_93.toInt ∧ fa1_93.toInt ≤ 64 ∧ fa1_85.toInt ≤ fa1_93.toInt := hw
                        have hw_96 := hw
                        obtain ⟨hw_96a, hw_96b, hw_96c, hw_96d, hw_96e, hw_96f⟩ := hw_96
                        refine va_iast hx hb hK hP hD hS 5 0 rfl rfl (vp_in_iff.mpr ⟨by omega, by omega⟩) dX4_readText_295 (fun H locs hP hD hS => ?_)
                        obtain ⟨f_97, ef_97⟩ : ∃ g : Nat → Int32, upd f_89 (v_90 : Int32).toNatClampNeg r_94 = g := ⟨_, rfl⟩
                        rw [ef_97] at hP hD
                        have hP : va_P D vwCl [(h0, .inr (4, [.int ype, .int ytk, .ref ywi, .ref yki, .ref yse, .ref yno, .ref yrh, .ref yrw, .ref yrk, .ref yrt, .int np, .int nq, .ref ytx, .int yle, .int at1_92, .int fa1_93, .ref yby, .ref ylo, .ref yhi, .int yac, .int ynx, .ref yro, .ref ygl, .int ysn, .ref yso, .ref ysp, .ref ysw, .long ysd, .ref yik, .ref ykp])), (ytx, .inl (cI, 64, .inl Ftx)), (yrh, .inl (cI, 5, .inl grh)), (yrw, .inl (cI, 5, .inl grw)), (yrk, .inl (cI, 5, .inl grk)), (yrt, .inl (cI, 30, .inl f_97))] H := hP
                        have hD : va_D A [(h0, .inr (4, [.int ype, .int ytk, .ref ywi, .ref yki, .ref yse, .ref yno, .ref yrh, .ref yrw, .ref yrk, .ref yrt, .int np, .int nq, .ref ytx, .int yle, .int at1_92, .int fa1_93, .ref yby, .ref ylo, .ref yhi, .int yac, .int ynx, .ref yro, .ref ygl, .int ysn, .ref yso, .ref ysp, .ref ysw, .long ysd, .ref yik, .ref ykp])), (ytx, .inl (cI, 64, .inl Ftx)), (yrh, .inl (cI, 5, .inl grh)), (yrw, .inl (cI, 5, .inl grw)), (yrk, .inl (cI, 5, .inl grk)), (yrt, .inl (cI, 30, .inl f_97))] := hD
                        refine lv_aload_n hx hb dX4_readText_296 rfl (lv_at hl 1 rfl) ?_
                        refine lv_dup hx hb dX4_readText_297 rfl ?_
                        refine va_get (D := D) (ci := 4) (v := .int nq) (C := RX4) (T := TX4) (N := 30) hx hb hts iX4 hown hK hP 0 rfl rfl 11 (by decide) (hts (.fieldLink RX4 90 "PunchedTicketModel" "readTickets" "I") (List.mem_of_getElem? (i := 4) rfl)) (fun _ h9 => h9) rfl dX4_readText_298 ?_
                        refine lv_iconst (v := 1) hx hb dX4_readText_301 (by decide) ?_
                        refine lv_iadd hx hb dX4_readText_302 ?_
                        refine lv_topi (fun v_98 ev_98 => ?_)
                        have tv_98 : v_98.toInt = nq.toInt + (1 : Int) := by rw [ev_98]; exact ti_add (x := nq) (y := 1) (show -2147483648 ≤ nq.toInt + (1 : Int) by omega) (show nq.toInt + (1 : Int) < 2147483648 by omega)
                        refine va_put (D := D) (ci := 4) (v := .int v_98) (ty := .int) (C := RX4) (T := TX4) (N := 30) hx hb hts iX4 tyX4 tyX4_ok nmX4 hown hK hP hD hS 0 rfl rfl 11 (by decide) (hts (.fieldLink RX4 90 "PunchedTicketModel" "readTickets" "I") (List.mem_of_getElem? (i := 4) rfl)) (fun _ h9 => h9) rfl (by decide +kernel) rfl rfl (Nat.le_of_ble_eq_true rfl) dX4_readText_303 (fun H locs hP hD hS => ?_)
                        have hP : va_P D vwCl [(h0, .inr (4, [.int ype, .int ytk, .ref ywi, .ref yki, .ref yse, .ref yno, .ref yrh, .ref yrw, .ref yrk, .ref yrt, .int np, .int v_98, .ref ytx, .int yle, .int at1_92, .int fa1_93, .ref yby, .ref ylo, .ref yhi, .int yac, .int ynx, .ref yro, .ref ygl, .int ysn, .ref yso, .ref ysp, .ref ysw, .long ysd, .ref yik, .ref ykp])), (ytx, .inl (cI, 64, .inl Ftx)), (yrh, .inl (cI, 5, .inl grh)), (yrw, .inl (cI, 5, .inl grw)), (yrk, .inl (cI, 5, .inl grk)), (yrt, .inl (cI, 30, .inl f_97))] H := hP
                        have hD : va_D A [(h0, .inr (4, [.int ype, .int ytk, .ref ywi, .ref yki, .ref yse, .ref yno, .ref yrh, .ref yrw, .ref yrk, .ref yrt, .int np, .int v_98, .ref ytx, .int yle, .int at1_92, .int fa1_93, .ref yby, .ref ylo, .ref yhi, .int yac, .int ynx, .ref yro, .ref ygl, .int ysn, .ref yso, .ref ysp, .ref ysw, .long ysd, .ref yik, .ref ykp])), (ytx, .inl (cI, 64, .inl Ftx)), (yrh, .inl (cI, 5, .inl grh)), (yrw, .inl (cI, 5, .inl grw)), (yrk, .inl (cI, 5, .inl grk)), (yrt, .inl (cI, 30, .inl f_97))] := hD
                        refine lv_goto (tgt := 46) hx hb dX4_readText_306 (by decide) ?_
                        exact ih_5 np v_98 at1_92 fa1_93 grh grw grk f_97 _ _ _ (show (200 * (65 - at1_92.toInt) + (64 - fa1_93.toInt)).toNat < fu_4 by omega) (show 0 ≤ np.toInt ∧ np.toInt ≤ 5 by omega) (show 0 ≤ v_98.toInt ∧ v_98.toInt ≤ 6 by omega) (show 1 ≤ at1_92.toInt ∧ at1_92.toInt ≤ 64 by omega) (show -9 ≤ fa1_93.toInt ∧ fa1_93.toInt ≤ 64 by omega) hP hD hS (lv_sub hl [1] rfl)
                · have tc_54 := b_nle (show (5 : Int32).toInt = 5 by decide) rfl c_54
                  refine lv_aload_n hx hb dX4_readText_88 rfl (lv_at hl 0 rfl) ?_
                  refine lv_dup hx hb dX4_readText_89 rfl ?_
                  refine va_get (D := D) (ci := 4) (v := .int na) (C := RX4) (T := TX4) (N := 30) hx hb hts iX4 hown hK hP 0 rfl rfl 14 (by decide) (hts (.fieldLink RX4 84 "PunchedTicketModel" "at" "I") (List.mem_of_getElem? (i := 1) rfl)) (fun _ h9 => h9) rfl dX4_readText_90 ?_
                  refine lv_iconst (v := 1) hx hb dX4_readText_93 (by decide) ?_
                  refine lv_iadd hx hb dX4_readText_94 ?_
                  refine lv_topi (fun v_99 ev_99 => ?_)
                  have tv_99 : v_99.toInt = na.toInt + (1 : Int) := by rw [ev_99]; exact ti_add (x := na) (y := 1) (show -2147483648 ≤ na.toInt + (1 : Int) by omega) (show na.toInt + (1 : Int) < 2147483648 by omega)
                  refine va_put (D := D) (ci := 4) (v := .int v_99) (ty := .int) (C := RX4) (T := TX4) (N := 30) hx hb hts iX4 tyX4 tyX4_ok nmX4 hown hK hP hD hS 0 rfl rfl 14 (by decide) (hts (.fieldLink RX4 84 "PunchedTicketModel" "at" "I") (List.mem_of_getElem? (i := 1) rfl)) (fun _ h9 => h9) rfl (by decide +kernel) rfl rfl (Nat.le_of_ble_eq_true rfl) dX4_readText_95 (fun H locs hP hD hS => ?_)
                  have hP : va_P D vwCl [(h0, .inr (4, [.int ype, .int ytk, .ref ywi, .ref yki, .ref yse, .ref yno, .ref yrh, .ref yrw, .ref yrk, .ref yrt, .int np, .int nq, .ref ytx, .int yle, .int v_99, .int nf, .ref yby, .ref ylo, .ref yhi, .int yac, .int ynx, .ref yro, .ref ygl, .int ysn, .ref yso, .ref ysp, .ref ysw, .long ysd, .ref yik, .ref ykp])), (ytx, .inl (cI, 64, .inl Ftx)), (yrh, .inl (cI, 5, .inl grh)), (yrw, .inl (cI, 5, .inl grw)), (yrk, .inl (cI, 5, .inl grk)), (yrt, .inl (cI, 30, .inl grt))] H := hP
                  have hD : va_D A [(h0, .inr (4, [.int ype, .int ytk, .ref ywi, .ref yki, .ref yse, .ref yno, .ref yrh, .ref yrw, .ref yrk, .ref yrt, .int np, .int nq, .ref ytx, .int yle, .int v_99, .int nf, .ref yby, .ref ylo, .ref yhi, .int yac, .int ynx, .ref yro, .ref ygl, .int ysn, .ref yso, .ref ysp, .ref ysw, .long ysd, .ref yik, .ref ykp])), (ytx, .inl (cI, 64, .inl Ftx)), (yrh, .inl (cI, 5, .inl grh)), (yrw, .inl (cI, 5, .inl grw)), (yrk, .inl (cI, 5, .inl grk)), (yrt, .inl (cI, 30, .inl grt))] := hD
                  refine lv_aload_n hx hb dX4_readText_98 rfl (lv_at hl 0 rfl) ?_
                  refine va_get (D := D) (ci := 4) (v := .ref yrh) (C := RX4) (T := TX4) (N := 30) hx hb hts iX4 hown hK hP 0 rfl rfl 6 (by decide) (hts (.fieldLink RX4 22 "PunchedTicketModel" "readHome" "[I") (List.mem_of_getElem? (i := 7) rfl)) (fun _ h9 => h9) rfl dX4_readText_99 ?_
                  refine lv_aload_n hx hb dX4_readText_102 rfl (lv_at hl 0 rfl) ?_
                  refine va_get (D := D) (ci := 4) (v := .int np) (C := RX4) (T := TX4) (N := 30) hx hb hts iX4 hown hK hP 0 rfl rfl 10 (by decide) (hts (.fieldLink RX4 87 "PunchedTicketModel" "readPeople" "I") (List.mem_of_getElem? (i := 3) rfl)) (fun _ h9 => h9) rfl dX4_readText_103 ?_
                  refine lv_aload_n hx hb dX4_readText_106 rfl (lv_at hl 0 rfl) ?_
                  refine lv_bipush (v := 9) hx hb dX4_readText_107 (by decide) ?_
                  refine lv_bipush (v := (-9)) hx hb dX4_readText_109 (by decide) ?_
                  refine cV_i (As := [.int 9, .int (-9)]) (rest := [.int np, .ref yrh]) ⟨hx, hb, hml, hown, hts⟩ (c_X4_figure l D cI cZ cM h0 9 (-9) ype ytk ywi yki yse yno yrh yrw yrk yrt np nq ytx yle v_99 nf yby ylo yhi yac ynx yro ygl ysn yso ysp ysw ysd yik ykp Ftx _ (show 0 ≤ v_99.toInt ∧ v_99.toInt ≤ 64 by omega) (show -9 ≤ nf.toInt ∧ nf.toInt ≤ 64 by omega) (show 0 ≤ yle.toInt ∧ yle.toInt ≤ 64 by omega)) (cwV 2 hts gX4_readText_X4_figure rfl rfl rfl (by decide +kernel) ⟨by rw [hR]; decide, by rw [hR]; decide⟩) hK hP hD hS hA [0, 1] [2, 3, 4, 5] rfl rfl (by decide) (by decide) (by decide) rfl 0 rfl hl.1 rfl rfl (Nat.le_of_ble_eq_true rfl) dX4_readText_111 ⟨by rw [hR]; decide, by rw [hR]; decide⟩ (fun r_102 u_103 H locs hw hP hD hS => ?_)
                  obtain ⟨at1_100, fa1_101⟩ := u_103
                  have hP : va_P D vwCl [(h0, .inr (4, [.int ype, .int ytk, .ref ywi, .ref yki, .ref yse, .ref yno, .ref yrh, .ref yrw, .ref yrk, .ref yrt, .int np, .int nq, .ref ytx, .int yle, .int at1_100, .int fa1_101, .ref yby, .ref ylo, .ref yhi, .int yac, .int ynx, .ref yro, .ref ygl, .int ysn, .ref yso, .ref ysp, .ref ysw, .long ysd, .ref yik, .ref ykp])), (ytx, .inl (cI, 64, .inl Ftx)), (yrh, .inl (cI, 5, .inl grh)), (yrw, .inl (cI, 5, .inl grw)), (yrk, .inl (cI, 5, .inl grk)), (yrt, .inl (cI, 30, .inl grt))] H := hP.sub [4, 5, 0, 1, 2, 3] rfl
                  have hD : va_D A [(h0, .inr (4, [.int ype, .int ytk, .ref ywi, .ref yki, .ref yse, .ref yno, .ref yrh, .ref yrw, .ref yrk, .ref yrt, .int np, .int nq, .ref ytx, .int yle, .int at1_100, .int fa1_101, .ref yby, .ref ylo, .ref yhi, .int yac, .int ynx, .ref yro, .ref ygl, .int ysn, .ref yso, .ref ysp, .ref ysw, .long ysd, .ref yik, .ref ykp])), (ytx, .inl (cI, 64, .inl Ftx)), (yrh, .inl (cI, 5, .inl grh)), (yrw, .inl (cI, 5, .inl grw)), (yrk, .inl (cI, 5, .inl grk)), (yrt, .inl (cI, 30, .inl grt))] := hD.sub [4, 5, 0, 1, 2, 3] (by decide) rfl
                  refine W.widen (k := 0) (n := 0) (Nat.le_refl _) (Nat.le_refl _) ?_
                  have hw : 0 ≤ at1_100.toInt ∧ at1_100.toInt ≤ 64 ∧ v_99.toInt ≤ at1_100.toInt ∧ -9 ≤ fa1_101.toInt ∧ fa1_101.toInt ≤ 64 ∧ nf.toInt ≤ fa1_101.toInt := hw
                  have hw_104 := hw
                  obtain ⟨hw_104a, hw_104b, hw_104c, hw_104d, hw_104e, hw_104f⟩ := hw_104
                  refine va_iast hx hb hK hP hD hS 2 0 rfl rfl (vp_in_iff.mpr ⟨by omega, by omega⟩) dX4_readText_114 (fun H locs hP hD hS => ?_)
                  obtain ⟨f_105, ef_105⟩ : ∃ g : Nat → Int32, upd grh (np : Int32).toNatClampNeg r_102 = g := ⟨_, rfl⟩
                  rw [ef_105] at hP hD
                  have hP : va_P D vwCl [(h0, .inr (4, [.int ype, .int ytk, .ref ywi, .ref yki, .ref yse, .ref yno, .ref yrh, .ref yrw, .ref yrk, .ref yrt, .int np, .int nq, .ref ytx, .int yle, .int at1_100, .int fa1_101, .ref yby, .ref ylo, .ref yhi, .int yac, .int ynx, .ref yro, .ref ygl, .int ysn, .ref yso, .ref ysp, .ref ysw, .long ysd, .ref yik, .ref ykp])), (ytx, .inl (cI, 64, .inl Ftx)), (yrh, .inl (cI, 5, .inl f_105)), (yrw, .inl (cI, 5, .inl grw)), (yrk, .inl (cI, 5, .inl grk)), (yrt, .inl (cI, 30, .inl grt))] H := hP
                  have hD : va_D A [(h0, .inr (4, [.int ype, .int ytk, .ref ywi, .ref yki, .ref yse, .ref yno, .ref yrh, .ref yrw, .ref yrk, .ref yrt, .int np, .int nq, .ref ytx, .int yle, .int at1_100, .int fa1_101, .ref yby, .ref ylo, .ref yhi, .int yac, .int ynx, .ref yro, .ref ygl, .int ysn, .ref yso, .ref ysp, .ref ysw, .long ysd, .ref yik, .ref ykp])), (ytx, .inl (cI, 64, .inl Ftx)), (yrh, .inl (cI, 5, .inl f_105)), (yrw, .inl (cI, 5, .inl grw)), (yrk, .inl (cI, 5, .inl grk)), (yrt, .inl (cI, 30, .inl grt))] := hD
                  refine lv_aload_n hx hb dX4_readText_115 rfl (lv_at hl 0 rfl) ?_
                  refine va_get (D := D) (ci := 4) (v := .ref yrw) (C := RX4) (T := TX4) (N := 30) hx hb hts iX4 hown hK hP 0 rfl rfl 7 (by decide) (hts (.fieldLink RX4 25 "PunchedTicketModel" "readWish" "[I") (List.mem_of_getElem? (i := 8) rfl)) (fun _ h9 => h9) rfl dX4_readText_116 ?_
                  refine lv_aload_n hx hb dX4_readText_119 rfl (lv_at hl 0 rfl) ?_
                  refine va_get (D := D) (ci := 4) (v := .int np) (C := RX4) (T := TX4) (N := 30) hx hb hts iX4 hown hK hP 0 rfl rfl 10 (by decide) (hts (.fieldLink RX4 87 "PunchedTicketModel" "readPeople" "I") (List.mem_of_getElem? (i := 3) rfl)) (fun _ h9 => h9) rfl dX4_readText_120 ?_
                  refine lv_aload_n hx hb dX4_readText_123 rfl (lv_at hl 0 rfl) ?_
                  refine lv_bipush (v := 9) hx hb dX4_readText_124 (by decide) ?_
                  refine lv_bipush (v := (-9)) hx hb dX4_readText_126 (by decide) ?_
                  refine cV_i (As := [.int 9, .int (-9)]) (rest := [.int np, .ref yrw]) ⟨hx, hb, hml, hown, hts⟩ (c_X4_figure l D cI cZ cM h0 9 (-9) ype ytk ywi yki yse yno yrh yrw yrk yrt np nq ytx yle at1_100 fa1_101 yby ylo yhi yac ynx yro ygl ysn yso ysp ysw ysd yik ykp Ftx _ (show 0 ≤ at1_100.toInt ∧ at1_100.toInt ≤ 64 by omega) (show -9 ≤ fa1_101.toInt ∧ fa1_101.toInt ≤ 64 by omega) (show 0 ≤ yle.toInt ∧ yle.toInt ≤ 64 by omega)) (cwV 2 hts gX4_readText_X4_figure rfl rfl rfl (by decide +kernel) ⟨by rw [hR]; decide, by rw [hR]; decide⟩) hK hP hD hS hA [0, 1] [2, 3, 4, 5] rfl rfl (by decide) (by decide) (by decide) rfl 0 rfl hl.1 rfl rfl (Nat.le_of_ble_eq_true rfl) dX4_readText_128 ⟨by rw [hR]; decide, by rw [hR]; decide⟩ (fun r_108 u_109 H locs hw hP hD hS => ?_)
                  obtain ⟨at1_106, fa1_107⟩ := u_109
                  have hP : va_P D vwCl [(h0, .inr (4, [.int ype, .int ytk, .ref ywi, .ref yki, .ref yse, .ref yno, .ref yrh, .ref yrw, .ref yrk, .ref yrt, .int np, .int nq, .ref ytx, .int yle, .int at1_106, .int fa1_107, .ref yby, .ref ylo, .ref yhi, .int yac, .int ynx, .ref yro, .ref ygl, .int ysn, .ref yso, .ref ysp, .ref ysw, .long ysd, .ref yik, .ref ykp])), (ytx, .inl (cI, 64, .inl Ftx)), (yrh, .inl (cI, 5, .inl f_105)), (yrw, .inl (cI, 5, .inl grw)), (yrk, .inl (cI, 5, .inl grk)), (yrt, .inl (cI, 30, .inl grt))] H := hP.sub [4, 5, 0, 1, 2, 3] rfl
                  have hD : va_D A [(h0, .inr (4, [.int ype, .int ytk, .ref ywi, .ref yki, .ref yse, .ref yno, .ref yrh, .ref yrw, .ref yrk, .ref yrt, .int np, .int nq, .ref ytx, .int yle, .int at1_106, .int fa1_107, .ref yby, .ref ylo, .ref yhi, .int yac, .int ynx, .ref yro, .ref ygl, .int ysn, .ref yso, .ref ysp, .ref ysw, .long ysd, .ref yik, .ref ykp])), (ytx, .inl (cI, 64, .inl Ftx)), (yrh, .inl (cI, 5, .inl f_105)), (yrw, .inl (cI, 5, .inl grw)), (yrk, .inl (cI, 5, .inl grk)), (yrt, .inl (cI, 30, .inl grt))] := hD.sub [4, 5, 0, 1, 2, 3] (by decide) rfl
                  refine W.widen (k := 0) (n := 0) (Nat.le_refl _) (Nat.le_refl _) ?_
                  have hw : 0 ≤ at1_106.toInt ∧ at1_106.toInt ≤ 64 ∧ at1_100.toInt ≤ at1_106.toInt ∧ -9 ≤ fa1_107.toInt ∧ fa1_107.toInt ≤ 64 ∧ fa1_101.toInt ≤ fa1_107.toInt := hw
                  have hw_110 := hw
                  obtain ⟨hw_110a, hw_110b, hw_110c, hw_110d, hw_110e, hw_110f⟩ := hw_110
                  refine va_iast hx hb hK hP hD hS 3 0 rfl rfl (vp_in_iff.mpr ⟨by omega, by omega⟩) dX4_readText_131 (fun H locs hP hD hS => ?_)
                  obtain ⟨f_111, ef_111⟩ : ∃ g : Nat → Int32, upd grw (np : Int32).toNatClampNeg r_108 = g := ⟨_, rfl⟩
                  rw [ef_111] at hP hD
                  have hP : va_P D vwCl [(h0, .inr (4, [.int ype, .int ytk, .ref ywi, .ref yki, .ref yse, .ref yno, .ref yrh, .ref yrw, .ref yrk, .ref yrt, .int np, .int nq, .ref ytx, .int yle, .int at1_106, .int fa1_107, .ref yby, .ref ylo, .ref yhi, .int yac, .int ynx, .ref yro, .ref ygl, .int ysn, .ref yso, .ref ysp, .ref ysw, .long ysd, .ref yik, .ref ykp])), (ytx, .inl (cI, 64, .inl Ftx)), (yrh, .inl (cI, 5, .inl f_105)), (yrw, .inl (cI, 5, .inl f_111)), (yrk, .inl (cI, 5, .inl grk)), (yrt, .inl (cI, 30, .inl grt))] H := hP
                  have hD : va_D A [(h0, .inr (4, [.int ype, .int ytk, .ref ywi, .ref yki, .ref yse, .ref yno, .ref yrh, .ref yrw, .ref yrk, .ref yrt, .int np, .int nq, .ref ytx, .int yle, .int at1_106, .int fa1_107, .ref yby, .ref ylo, .ref yhi, .int yac, .int ynx, .ref yro, .ref ygl, .int ysn, .ref yso, .ref ysp, .ref ysw, .long ysd, .ref yik, .ref ykp])), (ytx, .inl (cI, 64, .inl Ftx)), (yrh, .inl (cI, 5, .inl f_105)), (yrw, .inl (cI, 5, .inl f_111)), (yrk, .inl (cI, 5, .inl grk)), (yrt, .inl (cI, 30, .inl grt))] := hD
                  refine lv_aload_n hx hb dX4_readText_132 rfl (lv_at hl 0 rfl) ?_
                  refine va_get (D := D) (ci := 4) (v := .ref yrk) (C := RX4) (T := TX4) (N := 30) hx hb hts iX4 hown hK hP 0 rfl rfl 8 (by decide) (hts (.fieldLink RX4 28 "PunchedTicketModel" "readKind" "[I") (List.mem_of_getElem? (i := 9) rfl)) (fun _ h9 => h9) rfl dX4_readText_133 ?_
                  refine lv_aload_n hx hb dX4_readText_136 rfl (lv_at hl 0 rfl) ?_
                  refine va_get (D := D) (ci := 4) (v := .int np) (C := RX4) (T := TX4) (N := 30) hx hb hts iX4 hown hK hP 0 rfl rfl 10 (by decide) (hts (.fieldLink RX4 87 "PunchedTicketModel" "readPeople" "I") (List.mem_of_getElem? (i := 3) rfl)) (fun _ h9 => h9) rfl dX4_readText_137 ?_
                  refine lv_aload_n hx hb dX4_readText_140 rfl (lv_at hl 0 rfl) ?_
                  refine lv_iconst (v := 3) hx hb dX4_readText_141 (by decide) ?_
                  refine lv_bipush (v := (-9)) hx hb dX4_readText_142 (by decide) ?_
                  refine cV_i (As := [.int 3, .int (-9)]) (rest := [.int np, .ref yrk]) ⟨hx, hb, hml, hown, hts⟩ (c_X4_figure l D cI cZ cM h0 3 (-9) ype ytk ywi yki yse yno yrh yrw yrk yrt np nq ytx yle at1_106 fa1_107 yby ylo yhi yac ynx yro ygl ysn yso ysp ysw ysd yik ykp Ftx _ (show 0 ≤ at1_106.toInt ∧ at1_106.toInt ≤ 64 by omega) (show -9 ≤ fa1_107.toInt ∧ fa1_107.toInt ≤ 64 by omega) (show 0 ≤ yle.toInt ∧ yle.toInt ≤ 64 by omega)) (cwV 2 hts gX4_readText_X4_figure rfl rfl rfl (by decide +kernel) ⟨by rw [hR]; decide, by rw [hR]; decide⟩) hK hP hD hS hA [0, 1] [2, 3, 4, 5] rfl rfl (by decide) (by decide) (by decide) rfl 0 rfl hl.1 rfl rfl (Nat.le_of_ble_eq_true rfl) dX4_readText_144 ⟨by rw [hR]; decide, by rw [hR]; decide⟩ (fun r_114 u_115 H locs hw hP hD hS => ?_)
                  obtain ⟨at1_112, fa1_113⟩ := u_115
                  have hP : va_P D vwCl [(h0, .inr (4, [.int ype, .int ytk, .ref ywi, .ref yki, .ref yse, .ref yno, .ref yrh, .ref yrw, .ref yrk, .ref yrt, .int np, .int nq, .ref ytx, .int yle, .int at1_112, .int fa1_113, .ref yby, .ref ylo, .ref yhi, .int yac, .int ynx, .ref yro, .ref ygl, .int ysn, .ref yso, .ref ysp, .ref ysw, .long ysd, .ref yik, .ref ykp])), (ytx, .inl (cI, 64, .inl Ftx)), (yrh, .inl (cI, 5, .inl f_105)), (yrw, .inl (cI, 5, .inl f_111)), (yrk, .inl (cI, 5, .inl grk)), (yrt, .inl (cI, 30, .inl grt))] H := hP.sub [4, 5, 0, 1, 2, 3] rfl
                  have hD : va_D A [(h0, .inr (4, [.int ype, .int ytk, .ref ywi, .ref yki, .ref yse, .ref yno, .ref yrh, .ref yrw, .ref yrk, .ref yrt, .int np, .int nq, .ref ytx, .int yle, .int at1_112, .int fa1_113, .ref yby, .ref ylo, .ref yhi, .int yac, .int ynx, .ref yro, .ref ygl, .int ysn, .ref yso, .ref ysp, .ref ysw, .long ysd, .ref yik, .ref ykp])), (ytx, .inl (cI, 64, .inl Ftx)), (yrh, .inl (cI, 5, .inl f_105)), (yrw, .inl (cI, 5, .inl f_111)), (yrk, .inl (cI, 5, .inl grk)), (yrt, .inl (cI, 30, .inl grt))] := hD.sub [4, 5, 0, 1, 2, 3] (by decide) rfl
                  refine W.widen (k := 0) (n := 0) (Nat.le_refl _) (Nat.le_refl _) ?_
                  have hw : 0 ≤ at1_112.toInt ∧ at1_112.toInt ≤ 64 ∧ at1_106.toInt ≤ at1_112.toInt ∧ -9 ≤ fa1_113.toInt ∧ fa1_113.toInt ≤ 64 ∧ fa1_107.toInt ≤ fa1_113.toInt := hw
                  have hw_116 := hw
                  obtain ⟨hw_116a, hw_116b, hw_116c, hw_116d, hw_116e, hw_116f⟩ := hw_116
                  refine va_iast hx hb hK hP hD hS 4 0 rfl rfl (vp_in_iff.mpr ⟨by omega, by omega⟩) dX4_readText_147 (fun H locs hP hD hS => ?_)
                  obtain ⟨f_117, ef_117⟩ : ∃ g : Nat → Int32, upd grk (np : Int32).toNatClampNeg r_114 = g := ⟨_, rfl⟩
                  rw [ef_117] at hP hD
                  have hP : va_P D vwCl [(h0, .inr (4, [.int ype, .int ytk, .ref ywi, .ref yki, .ref yse, .ref yno, .ref yrh, .ref yrw, .ref yrk, .ref yrt, .int np, .int nq, .ref ytx, .int yle, .int at1_112, .int fa1_113, .ref yby, .ref ylo, .ref yhi, .int yac, .int ynx, .ref yro, .ref ygl, .int ysn, .ref yso, .ref ysp, .ref ysw, .long ysd, .ref yik, .ref ykp])), (ytx, .inl (cI, 64, .inl Ftx)), (yrh, .inl (cI, 5, .inl f_105)), (yrw, .inl (cI, 5, .inl f_111)), (yrk, .inl (cI, 5, .inl f_117)), (yrt, .inl (cI, 30, .inl grt))] H := hP
                  have hD : va_D A [(h0, .inr (4, [.int ype, .int ytk, .ref ywi, .ref yki, .ref yse, .ref yno, .ref yrh, .ref yrw, .ref yrk, .ref yrt, .int np, .int nq, .ref ytx, .int yle, .int at1_112, .int fa1_113, .ref yby, .ref ylo, .ref yhi, .int yac, .int ynx, .ref yro, .ref ygl, .int ysn, .ref yso, .ref ysp, .ref ysw, .long ysd, .ref yik, .ref ykp])), (ytx, .inl (cI, 64, .inl Ftx)), (yrh, .inl (cI, 5, .inl f_105)), (yrw, .inl (cI, 5, .inl f_111)), (yrk, .inl (cI, 5, .inl f_117)), (yrt, .inl (cI, 30, .inl grt))] := hD
                  refine lv_aload_n hx hb dX4_readText_148 rfl (lv_at hl 0 rfl) ?_
                  refine lv_dup hx hb dX4_readText_149 rfl ?_
                  refine va_get (D := D) (ci := 4) (v := .int np) (C := RX4) (T := TX4) (N := 30) hx hb hts iX4 hown hK hP 0 rfl rfl 10 (by decide) (hts (.fieldLink RX4 87 "PunchedTicketModel" "readPeople" "I") (List.mem_of_getElem? (i := 3) rfl)) (fun _ h9 => h9) rfl dX4_readText_150 ?_
                  refine lv_iconst (v := 1) hx hb dX4_readText_153 (by decide) ?_
                  refine lv_iadd hx hb dX4_readText_154 ?_
                  refine lv_topi (fun v_118 ev_118 => ?_)
                  have tv_118 : v_118.toInt = np.toInt + (1 : Int) := by rw [ev_118]; exact ti_add (x := np) (y := 1) (show -2147483648 ≤ np.toInt + (1 : Int) by omega) (show np.toInt + (1 : Int) < 2147483648 by omega)
                  refine va_put (D := D) (ci := 4) (v := .int v_118) (ty := .int) (C := RX4) (T := TX4) (N := 30) hx hb hts iX4 tyX4 tyX4_ok nmX4 hown hK hP hD hS 0 rfl rfl 10 (by decide) (hts (.fieldLink RX4 87 "PunchedTicketModel" "readPeople" "I") (List.mem_of_getElem? (i := 3) rfl)) (fun _ h9 => h9) rfl (by decide +kernel) rfl rfl (Nat.le_of_ble_eq_true rfl) dX4_readText_155 (fun H locs hP hD hS => ?_)
                  have hP : va_P D vwCl [(h0, .inr (4, [.int ype, .int ytk, .ref ywi, .ref yki, .ref yse, .ref yno, .ref yrh, .ref yrw, .ref yrk, .ref yrt, .int v_118, .int nq, .ref ytx, .int yle, .int at1_112, .int fa1_113, .ref yby, .ref ylo, .ref yhi, .int yac, .int ynx, .ref yro, .ref ygl, .int ysn, .ref yso, .ref ysp, .ref ysw, .long ysd, .ref yik, .ref ykp])), (ytx, .inl (cI, 64, .inl Ftx)), (yrh, .inl (cI, 5, .inl f_105)), (yrw, .inl (cI, 5, .inl f_111)), (yrk, .inl (cI, 5, .inl f_117)), (yrt, .inl (cI, 30, .inl grt))] H := hP
                  have hD : va_D A [(h0, .inr (4, [.int ype, .int ytk, .ref ywi, .ref yki, .ref yse, .ref yno, .ref yrh, .ref yrw, .ref yrk, .ref yrt, .int v_118, .int nq, .ref ytx, .int yle, .int at1_112, .int fa1_113, .ref yby, .ref ylo, .ref yhi, .int yac, .int ynx, .ref yro, .ref ygl, .int ysn, .ref yso, .ref ysp, .ref ysw, .long ysd, .ref yik, .ref ykp])), (ytx, .inl (cI, 64, .inl Ftx)), (yrh, .inl (cI, 5, .inl f_105)), (yrw, .inl (cI, 5, .inl f_111)), (yrk, .inl (cI, 5, .inl f_117)), (yrt, .inl (cI, 30, .inl grt))] := hD
                  refine lv_goto (tgt := 46) hx hb dX4_readText_158 (by decide) ?_
                  exact ih_5 v_118 nq at1_112 fa1_113 f_105 f_111 f_117 grt _ _ _ (show (200 * (65 - at1_112.toInt) + (64 - fa1_113.toInt)).toNat < fu_4 by omega) (show 0 ≤ v_118.toInt ∧ v_118.toInt ≤ 5 by omega) (show 0 ≤ nq.toInt ∧ nq.toInt ≤ 6 by omega) (show 1 ≤ at1_112.toInt ∧ at1_112.toInt ≤ 64 by omega) (show -9 ≤ fa1_113.toInt ∧ fa1_113.toInt ≤ 64 by omega) hP hD hS (lv_sub hl [0] rfl)
      exact LOOP_4 _ 0 0 1 (-9) Frh Frw Frk Frt _ _ _ (Nat.lt_succ_self _) (by decide) (by decide) (by decide) (by decide) hP hD hS (lv_sub hl [0] rfl)
    · have tc_3 := b_ne rfl (show (76 : Int32).toInt = 76 by decide) c_3
      refine lv_iconst (v := 0) hx hb dX4_readText_39 (by decide) ?_
      exact ret_i (post := (fun (r : Int32) (u : Int32 × Int32 × Int32 × Int32 × (Nat → Int32) × (Nat → Int32) × (Nat → Int32) × (Nat → Int32)) => 0 ≤ u.1.toInt ∧ u.1.toInt ≤ 5 ∧ 0 ≤ u.2.1.toInt ∧ u.2.1.toInt ≤ 6)) (W1 := (fun u => [(h0, .inr (4, [.int ype, .int ytk, .ref ywi, .ref yki, .ref yse, .ref yno, .ref yrh, .ref yrw, .ref yrk, .ref yrt, .int u.1, .int u.2.1, .ref ytx, .int yle, .int u.2.2.1, .int u.2.2.2.1, .ref yby, .ref ylo, .ref yhi, .int yac, .int ynx, .ref yro, .ref ygl, .int ysn, .ref yso, .ref ysp, .ref ysw, .long ysd, .ref yik, .ref ykp])), (ytx, .inl (cI, 64, .inl Ftx)), (yrh, .inl (cI, 5, .inl u.2.2.2.2.1)), (yrw, .inl (cI, 5, .inl u.2.2.2.2.2.1)), (yrk, .inl (cI, 5, .inl u.2.2.2.2.2.2.1)), (yrt, .inl (cI, 30, .inl u.2.2.2.2.2.2.2))])) (0, 0, 0, (-9), Frh, Frw, Frk, Frt) hx hb hr hlocks rfl hQ hK hP hD hS ⟨by decide, by decide⟩ dX4_readText_40 (show 0 ≤ (0 : Int) ∧ (0 : Int) ≤ 5 ∧ 0 ≤ (0 : Int) ∧ (0 : Int) ≤ 6 by omega)

set_option maxHeartbeats 600000 in
set_option maxRecDepth 100000 in
theorem c_X4_fault (l : Launch) (D : va_G) (cI cZ cM : ClassId) (h0 : Nat) (ype : Int32) (ytk : Int32) (ywi : Nat) (yki : Nat) (yse : Nat) (yno : Nat) (yrh : Nat) (yrw : Nat) (yrk : Nat) (yrt : Nat) (yrp : Int32) (yrq : Int32) (ytx : Nat) (yle : Int32) (yat : Int32) (yfa : Int32) (yby : Nat) (ylo : Nat) (yhi : Nat) (yac : Int32) (ynx : Int32) (yro : Nat) (ygl : Nat) (ysn : Int32) (yso : Nat) (ysp : Nat) (ysw : Nat) (ysd : Int64) (yik : Nat) (ykp : Nat) (Ftx : Nat → Int32) (Frh : Nat → Int32) (Frw : Nat → Int32) (Frk : Nat → Int32) (Frt : Nat → Int32) (sz : Nat) (h_yle : 0 ≤ yle.toInt ∧ yle.toInt ≤ 64) : Ci l yX4_fault wsX4_fault ({ frames := 3, cells := 0, slots := 0, locals := 69 } : Room) D cI cZ cM [.ref h0] [(h0, .inr (4, [.int ype, .int ytk, .ref ywi, .ref yki, .ref yse, .ref yno, .ref yrh, .ref yrw, .ref yrk, .ref yrt, .int yrp, .int yrq, .ref ytx, .int yle, .int yat, .int yfa, .ref yby, .ref ylo, .ref yhi, .int yac, .int ynx, .ref yro, .ref ygl, .int ysn, .ref yso, .ref ysp, .ref ysw, .long ysd, .ref yik, .ref ykp])), (ytx, .inl (cI, 64, .inl Ftx)), (yrh, .inl (cI, 5, .inl Frh)), (yrw, .inl (cI, 5, .inl Frw)), (yrk, .inl (cI, 5, .inl Frk)), (yrt, .inl (cI, 30, .inl Frt))] sz (fun (r : Int32) (u : Int32 × Int32 × Int32 × Int32 × (Nat → Int32) × (Nat → Int32) × (Nat → Int32) × (Nat → Int32)) => True) (fun u => [(h0, .inr (4, [.int ype, .int ytk, .ref ywi, .ref yki, .ref yse, .ref yno, .ref yrh, .ref yrw, .ref yrk, .ref yrt, .int u.1, .int u.2.1, .ref ytx, .int yle, .int u.2.2.1, .int u.2.2.2.1, .ref yby, .ref ylo, .ref yhi, .int yac, .int ynx, .ref yro, .ref ygl, .int ysn, .ref yso, .ref ysp, .ref ysw, .long ysd, .ref yik, .ref ykp])), (ytx, .inl (cI, 64, .inl Ftx)), (yrh, .inl (cI, 5, .inl u.2.2.2.2.1)), (yrw, .inl (cI, 5, .inl u.2.2.2.2.2.1)), (yrk, .inl (cI, 5, .inl u.2.2.2.2.2.2.1)), (yrt, .inl (cI, 30, .inl u.2.2.2.2.2.2.2))]) 0 0 := by
  refine begins (l := l) (y := yX4_fault) (ws := wsX4_fault) (av := [.ref h0]) (Qc := fun A => va_Qi (fun (r : Int32) (u : Int32 × Int32 × Int32 × Int32 × (Nat → Int32) × (Nat → Int32) × (Nat → Int32) × (Nat → Int32)) => True) (fun u => Wd D cI cZ cM A ((fun u => [(h0, .inr (4, [.int ype, .int ytk, .ref ywi, .ref yki, .ref yse, .ref yno, .ref yrh, .ref yrw, .ref yrk, .ref yrt, .int u.1, .int u.2.1, .ref ytx, .int yle, .int u.2.2.1, .int u.2.2.2.1, .ref yby, .ref ylo, .ref yhi, .int yac, .int ynx, .ref yro, .ref ygl, .int ysn, .ref yso, .ref ysp, .ref ysw, .long ysd, .ref yik, .ref ykp])), (ytx, .inl (cI, 64, .inl Ftx)), (yrh, .inl (cI, 5, .inl u.2.2.2.2.1)), (yrw, .inl (cI, 5, .inl u.2.2.2.2.2.1)), (yrk, .inl (cI, 5, .inl u.2.2.2.2.2.2.1)), (yrt, .inl (cI, 30, .inl u.2.2.2.2.2.2.2))]) u)) A) cX4_fault 1 (some .int) (by decide) rfl (Nat.le_of_ble_eq_true rfl) ?_
  intro p e s m args below meth c R Q A ls hBd hR hQ hA hS hK hP hD hl
  obtain ⟨hx, hb, hr, hts, hown, hlocks, hin, hml⟩ := hBd
  have hl : lv_has ls 1 [(0, .ref h0)] := hl
  have iX4 : ∀ w ∈ wsX40, w ∈ wsX4_fault := fun _ h => List.mem_cons_of_mem _ (List.mem_append_right _ h)
  obtain ⟨h_ylea, h_yleb⟩ := h_yle
  refine lv_aload_n hx hb dX4_fault_0 rfl (lv_at hl 0 rfl) ?_
  refine cV_i (As := []) (rest := []) ⟨hx, hb, hml, hown, hts⟩ (c_X4_readText l D cI cZ cM h0 ype ytk ywi yki yse yno yrh yrw yrk yrt yrp yrq ytx yle yat yfa yby ylo yhi yac ynx yro ygl ysn yso ysp ysw ysd yik ykp Ftx Frh Frw Frk Frt _ (show 0 ≤ yle.toInt ∧ yle.toInt ≤ 64 by omega)) (cwV 0 hts gX4_fault_X4_readText rfl rfl rfl (by decide +kernel) ⟨by rw [hR]; decide, by rw [hR]; decide⟩) hK hP hD hS hA [0, 1, 2, 3, 4, 5] [] rfl rfl (by decide) (by decide) (by decide) rfl 0 rfl hl.1 rfl rfl (Nat.le_of_ble_eq_true rfl) dX4_fault_1 ⟨by rw [hR]; decide, by rw [hR]; decide⟩ (fun r_9 u_10 H locs hw hP hD hS => ?_)
  obtain ⟨rp1_1, rq1_2, at1_3, fa1_4, Grh_5, Grw_6, Grk_7, Grt_8⟩ := u_10
  have hP : va_P D vwCl [(h0, .inr (4, [.int ype, .int ytk, .ref ywi, .ref yki, .ref yse, .ref yno, .ref yrh, .ref yrw, .ref yrk, .ref yrt, .int rp1_1, .int rq1_2, .ref ytx, .int yle, .int at1_3, .int fa1_4, .ref yby, .ref ylo, .ref yhi, .int yac, .int ynx, .ref yro, .ref ygl, .int ysn, .ref yso, .ref ysp, .ref ysw, .long ysd, .ref yik, .ref ykp])), (ytx, .inl (cI, 64, .inl Ftx)), (yrh, .inl (cI, 5, .inl Grh_5)), (yrw, .inl (cI, 5, .inl Grw_6)), (yrk, .inl (cI, 5, .inl Grk_7)), (yrt, .inl (cI, 30, .inl Grt_8))] H := hP.sub [0, 1, 2, 3, 4, 5] rfl
  have hD : va_D A [(h0, .inr (4, [.int ype, .int ytk, .ref ywi, .ref yki, .ref yse, .ref yno, .ref yrh, .ref yrw, .ref yrk, .ref yrt, .int rp1_1, .int rq1_2, .ref ytx, .int yle, .int at1_3, .int fa1_4, .ref yby, .ref ylo, .ref yhi, .int yac, .int ynx, .ref yro, .ref ygl, .int ysn, .ref yso, .ref ysp, .ref ysw, .long ysd, .ref yik, .ref ykp])), (ytx, .inl (cI, 64, .inl Ftx)), (yrh, .inl (cI, 5, .inl Grh_5)), (yrw, .inl (cI, 5, .inl Grw_6)), (yrk, .inl (cI, 5, .inl Grk_7)), (yrt, .inl (cI, 30, .inl Grt_8))] := hD.sub [0, 1, 2, 3, 4, 5] (by decide) rfl
  refine W.widen (k := 0) (n := 0) (Nat.le_refl _) (Nat.le_refl _) ?_
  have hw : 0 ≤ rp1_1.toInt ∧ rp1_1.toInt ≤ 5 ∧ 0 ≤ rq1_2.toInt ∧ rq1_2.toInt ≤ 6 := hw
  have hw_11 := hw
  obtain ⟨hw_11a, hw_11b, hw_11c, hw_11d⟩ := hw_11
  exact ret_i (post := (fun (r : Int32) (u : Int32 × Int32 × Int32 × Int32 × (Nat → Int32) × (Nat → Int32) × (Nat → Int32) × (Nat → Int32)) => True)) (W1 := (fun u => [(h0, .inr (4, [.int ype, .int ytk, .ref ywi, .ref yki, .ref yse, .ref yno, .ref yrh, .ref yrw, .ref yrk, .ref yrt, .int u.1, .int u.2.1, .ref ytx, .int yle, .int u.2.2.1, .int u.2.2.2.1, .ref yby, .ref ylo, .ref yhi, .int yac, .int ynx, .ref yro, .ref ygl, .int ysn, .ref yso, .ref ysp, .ref ysw, .long ysd, .ref yik, .ref ykp])), (ytx, .inl (cI, 64, .inl Ftx)), (yrh, .inl (cI, 5, .inl u.2.2.2.2.1)), (yrw, .inl (cI, 5, .inl u.2.2.2.2.2.1)), (yrk, .inl (cI, 5, .inl u.2.2.2.2.2.2.1)), (yrt, .inl (cI, 30, .inl u.2.2.2.2.2.2.2))])) (rp1_1, rq1_2, at1_3, fa1_4, Grh_5, Grw_6, Grk_7, Grt_8) hx hb hr hlocks rfl hQ hK hP hD hS ⟨by decide, by decide⟩ dX4_fault_4 trivial

set_option maxHeartbeats 600000 in
set_option maxRecDepth 100000 in
theorem c_X4_line (l : Launch) (D : va_G) (cI cZ cM : ClassId) (h0 : Nat) (ype : Int32) (ytk : Int32) (ywi : Nat) (yki : Nat) (yse : Nat) (yno : Nat) (yrh : Nat) (yrw : Nat) (yrk : Nat) (yrt : Nat) (yrp : Int32) (yrq : Int32) (ytx : Nat) (yle : Int32) (yat : Int32) (yfa : Int32) (yby : Nat) (ylo : Nat) (yhi : Nat) (yac : Int32) (ynx : Int32) (yro : Nat) (ygl : Nat) (ysn : Int32) (yso : Nat) (ysp : Nat) (ysw : Nat) (ysd : Int64) (yik : Nat) (ykp : Nat) (Ftx : Nat → Int32) (Frh : Nat → Int32) (Frw : Nat → Int32) (Frk : Nat → Int32) (Frt : Nat → Int32) (Fwi : Nat → Int32) (Fki : Nat → Int32) (Fse : Nat → Int32) (Fno : Nat → Int32) (Fik : Nat → Int32) (sz : Nat) (h_ype : 0 ≤ ype.toInt ∧ ype.toInt ≤ 5) (h_ytk : 0 ≤ ytk.toInt ∧ ytk.toInt ≤ 6) (h_yle : 0 ≤ yle.toInt ∧ yle.toInt ≤ 64) (h_yac : 0 ≤ yac.toInt ∧ yac.toInt ≤ 14) : Ci l yX4_line wsX4_line ({ frames := 3, cells := 0, slots := 0, locals := 69 } : Room) D cI cZ cM [.ref h0] [(h0, .inr (4, [.int ype, .int ytk, .ref ywi, .ref yki, .ref yse, .ref yno, .ref yrh, .ref yrw, .ref yrk, .ref yrt, .int yrp, .int yrq, .ref ytx, .int yle, .int yat, .int yfa, .ref yby, .ref ylo, .ref yhi, .int yac, .int ynx, .ref yro, .ref ygl, .int ysn, .ref yso, .ref ysp, .ref ysw, .long ysd, .ref yik, .ref ykp])), (ytx, .inl (cI, 64, .inl Ftx)), (yrh, .inl (cI, 5, .inl Frh)), (yrw, .inl (cI, 5, .inl Frw)), (yrk, .inl (cI, 5, .inl Frk)), (yrt, .inl (cI, 30, .inl Frt)), (ywi, .inl (cI, 5, .inl Fwi)), (yki, .inl (cI, 5, .inl Fki)), (yse, .inl (cI, 7, .inl Fse)), (yno, .inl (cI, 96, .inl Fno)), (yik, .inl (cZ, 2, .inl Fik))] sz (fun (r : Int32) (u : Int32 × Int32 × Int32 × Int32 × Int32 × Int32 × Int32 × (Nat → Int32) × (Nat → Int32) × (Nat → Int32) × (Nat → Int32) × (Nat → Int32) × (Nat → Int32) × (Nat → Int32) × (Nat → Int32) × (Nat → Int32)) => (0 ≤ u.1.toInt ∧ u.1.toInt ≤ 5) ∧ (0 ≤ u.2.1.toInt ∧ u.2.1.toInt ≤ 6) ∧ (0 ≤ u.2.2.2.2.2.2.1.toInt ∧ u.2.2.2.2.2.2.1.toInt ≤ 14)) (fun u => [(h0, .inr (4, [.int u.1, .int u.2.1, .ref ywi, .ref yki, .ref yse, .ref yno, .ref yrh, .ref yrw, .ref yrk, .ref yrt, .int u.2.2.1, .int u.2.2.2.1, .ref ytx, .int yle, .int u.2.2.2.2.1, .int u.2.2.2.2.2.1, .ref yby, .ref ylo, .ref yhi, .int u.2.2.2.2.2.2.1, .int ynx, .ref yro, .ref ygl, .int ysn, .ref yso, .ref ysp, .ref ysw, .long ysd, .ref yik, .ref ykp])), (ytx, .inl (cI, 64, .inl Ftx)), (yrh, .inl (cI, 5, .inl u.2.2.2.2.2.2.2.1)), (yrw, .inl (cI, 5, .inl u.2.2.2.2.2.2.2.2.1)), (yrk, .inl (cI, 5, .inl u.2.2.2.2.2.2.2.2.2.1)), (yrt, .inl (cI, 30, .inl u.2.2.2.2.2.2.2.2.2.2.1)), (ywi, .inl (cI, 5, .inl u.2.2.2.2.2.2.2.2.2.2.2.1)), (yki, .inl (cI, 5, .inl u.2.2.2.2.2.2.2.2.2.2.2.2.1)), (yse, .inl (cI, 7, .inl u.2.2.2.2.2.2.2.2.2.2.2.2.2.1)), (yno, .inl (cI, 96, .inl u.2.2.2.2.2.2.2.2.2.2.2.2.2.2.1)), (yik, .inl (cZ, 2, .inl u.2.2.2.2.2.2.2.2.2.2.2.2.2.2.2))]) 0 0 := by
  refine begins (l := l) (y := yX4_line) (ws := wsX4_line) (av := [.ref h0]) (Qc := fun A => va_Qi (fun (r : Int32) (u : Int32 × Int32 × Int32 × Int32 × Int32 × Int32 × Int32 × (Nat → Int32) × (Nat → Int32) × (Nat → Int32) × (Nat → Int32) × (Nat → Int32) × (Nat → Int32) × (Nat → Int32) × (Nat → Int32) × (Nat → Int32)) => (0 ≤ u.1.toInt ∧ u.1.toInt ≤ 5) ∧ (0 ≤ u.2.1.toInt ∧ u.2.1.toInt ≤ 6) ∧ (0 ≤ u.2.2.2.2.2.2.1.toInt ∧ u.2.2.2.2.2.2.1.toInt ≤ 14)) (fun u => Wd D cI cZ cM A ((fun u => [(h0, .inr (4, [.int u.1, .int u.2.1, .ref ywi, .ref yki, .ref yse, .ref yno, .ref yrh, .ref yrw, .ref yrk, .ref yrt, .int u.2.2.1, .int u.2.2.2.1, .ref ytx, .int yle, .int u.2.2.2.2.1, .int u.2.2.2.2.2.1, .ref yby, .ref ylo, .ref yhi, .int u.2.2.2.2.2.2.1, .int ynx, .ref yro, .ref ygl, .int ysn, .ref yso, .ref ysp, .ref ysw, .long ysd, .ref yik, .ref ykp])), (ytx, .inl (cI, 64, .inl Ftx)), (yrh, .inl (cI, 5, .inl u.2.2.2.2.2.2.2.1)), (yrw, .inl (cI, 5, .inl u.2.2.2.2.2.2.2.2.1)), (yrk, .inl (cI, 5, .inl u.2.2.2.2.2.2.2.2.2.1)), (yrt, .inl (cI, 30, .inl u.2.2.2.2.2.2.2.2.2.2.1)), (ywi, .inl (cI, 5, .inl u.2.2.2.2.2.2.2.2.2.2.2.1)), (yki, .inl (cI, 5, .inl u.2.2.2.2.2.2.2.2.2.2.2.2.1)), (yse, .inl (cI, 7, .inl u.2.2.2.2.2.2.2.2.2.2.2.2.2.1)), (yno, .inl (cI, 96, .inl u.2.2.2.2.2.2.2.2.2.2.2.2.2.2.1)), (yik, .inl (cZ, 2, .inl u.2.2.2.2.2.2.2.2.2.2.2.2.2.2.2))]) u)) A) cX4_line 3 (some .int) (by decide) rfl (Nat.le_of_ble_eq_true rfl) ?_
  intro p e s m args below meth c R Q A ls hBd hR hQ hA hS hK hP hD hl
  obtain ⟨hx, hb, hr, hts, hown, hlocks, hin, hml⟩ := hBd
  have hl : lv_has ls 3 [(0, .ref h0)] := hl
  have iX4 : ∀ w ∈ wsX40, w ∈ wsX4_line := fun _ h => List.mem_cons_of_mem _ (List.mem_append_right _ h)
  obtain ⟨h_ypea, h_ypeb⟩ := h_ype
  obtain ⟨h_ytka, h_ytkb⟩ := h_ytk
  obtain ⟨h_ylea, h_yleb⟩ := h_yle
  obtain ⟨h_yaca, h_yacb⟩ := h_yac
  refine lv_aload_n hx hb dX4_line_0 rfl (lv_at hl 0 rfl) ?_
  refine cV_i (As := []) (rest := []) ⟨hx, hb, hml, hown, hts⟩ (c_X4_readText l D cI cZ cM h0 ype ytk ywi yki yse yno yrh yrw yrk yrt yrp yrq ytx yle yat yfa yby ylo yhi yac ynx yro ygl ysn yso ysp ysw ysd yik ykp Ftx Frh Frw Frk Frt _ (show 0 ≤ yle.toInt ∧ yle.toInt ≤ 64 by omega)) (cwV 0 hts gX4_line_X4_readText rfl rfl rfl (by decide +kernel) ⟨by rw [hR]; decide, by rw [hR]; decide⟩) hK hP hD hS hA [0, 1, 2, 3, 4, 5] [6, 7, 8, 9, 10] rfl rfl (by decide) (by decide) (by decide) rfl 0 rfl hl.1 rfl rfl (Nat.le_of_ble_eq_true rfl) dX4_line_1 ⟨by rw [hR]; decide, by rw [hR]; decide⟩ (fun r_9 u_10 H locs hw hP hD hS => ?_)
  obtain ⟨rp1_1, rq1_2, at1_3, fa1_4, Grh_5, Grw_6, Grk_7, Grt_8⟩ := u_10
  have hP : va_P D vwCl [(h0, .inr (4, [.int ype, .int ytk, .ref ywi, .ref yki, .ref yse, .ref yno, .ref yrh, .ref yrw, .ref yrk, .ref yrt, .int rp1_1, .int rq1_2, .ref ytx, .int yle, .int at1_3, .int fa1_4, .ref yby, .ref ylo, .ref yhi, .int yac, .int ynx, .ref yro, .ref ygl, .int ysn, .ref yso, .ref ysp, .ref ysw, .long ysd, .ref yik, .ref ykp])), (ytx, .inl (cI, 64, .inl Ftx)), (yrh, .inl (cI, 5, .inl Grh_5)), (yrw, .inl (cI, 5, .inl Grw_6)), (yrk, .inl (cI, 5, .inl Grk_7)), (yrt, .inl (cI, 30, .inl Grt_8)), (ywi, .inl (cI, 5, .inl Fwi)), (yki, .inl (cI, 5, .inl Fki)), (yse, .inl (cI, 7, .inl Fse)), (yno, .inl (cI, 96, .inl Fno)), (yik, .inl (cZ, 2, .inl Fik))] H := hP.sub [5, 6, 7, 8, 9, 10, 0, 1, 2, 3, 4] rfl
  have hD : va_D A [(h0, .inr (4, [.int ype, .int ytk, .ref ywi, .ref yki, .ref yse, .ref yno, .ref yrh, .ref yrw, .ref yrk, .ref yrt, .int rp1_1, .int rq1_2, .ref ytx, .int yle, .int at1_3, .int fa1_4, .ref yby, .ref ylo, .ref yhi, .int yac, .int ynx, .ref yro, .ref ygl, .int ysn, .ref yso, .ref ysp, .ref ysw, .long ysd, .ref yik, .ref ykp])), (ytx, .inl (cI, 64, .inl Ftx)), (yrh, .inl (cI, 5, .inl Grh_5)), (yrw, .inl (cI, 5, .inl Grw_6)), (yrk, .inl (cI, 5, .inl Grk_7)), (yrt, .inl (cI, 30, .inl Grt_8)), (ywi, .inl (cI, 5, .inl Fwi)), (yki, .inl (cI, 5, .inl Fki)), (yse, .inl (cI, 7, .inl Fse)), (yno, .inl (cI, 96, .inl Fno)), (yik, .inl (cZ, 2, .inl Fik))] := hD.sub [5, 6, 7, 8, 9, 10, 0, 1, 2, 3, 4] (by decide) rfl
  refine W.widen (k := 0) (n := 0) (Nat.le_refl _) (Nat.le_refl _) ?_
  have hw : 0 ≤ rp1_1.toInt ∧ rp1_1.toInt ≤ 5 ∧ 0 ≤ rq1_2.toInt ∧ rq1_2.toInt ≤ 6 := hw
  have hw_11 := hw
  obtain ⟨hw_11a, hw_11b, hw_11c, hw_11d⟩ := hw_11
  refine lv_bipush (v := (-9)) hx hb dX4_line_4 (by decide) ?_
  refine lv_icmp_eq (tgt := 12) hx hb dX4_line_6 (by decide) (fun c_12 => ?_) (fun c_12 => ?_)
  · have tc_12 := b_eq rfl (show ((-9) : Int32).toInt = -9 by decide) c_12
    refine lv_aload_n hx hb dX4_line_12 rfl (lv_at hl 0 rfl) ?_
    refine lv_aload_n hx hb dX4_line_13 rfl (lv_at hl 0 rfl) ?_
    refine va_get (D := D) (ci := 4) (v := .int rp1_1) (C := RX4) (T := TX4) (N := 30) hx hb hts iX4 hown hK hP 0 rfl rfl 10 (by decide) (hts (.fieldLink RX4 87 "PunchedTicketModel" "readPeople" "I") (List.mem_of_getElem? (i := 1) rfl)) (fun _ h9 => h9) rfl dX4_line_14 ?_
    refine va_put (D := D) (ci := 4) (v := .int rp1_1) (ty := .int) (C := RX4) (T := TX4) (N := 30) hx hb hts iX4 tyX4 tyX4_ok nmX4 hown hK hP hD hS 0 rfl rfl 0 (by decide) (hts (.fieldLink RX4 68 "PunchedTicketModel" "people" "I") (List.mem_of_getElem? (i := 2) rfl)) (fun _ h9 => h9) rfl (by decide +kernel) rfl rfl (Nat.le_of_ble_eq_true rfl) dX4_line_17 (fun H locs hP hD hS => ?_)
    have hP : va_P D vwCl [(h0, .inr (4, [.int rp1_1, .int ytk, .ref ywi, .ref yki, .ref yse, .ref yno, .ref yrh, .ref yrw, .ref yrk, .ref yrt, .int rp1_1, .int rq1_2, .ref ytx, .int yle, .int at1_3, .int fa1_4, .ref yby, .ref ylo, .ref yhi, .int yac, .int ynx, .ref yro, .ref ygl, .int ysn, .ref yso, .ref ysp, .ref ysw, .long ysd, .ref yik, .ref ykp])), (ytx, .inl (cI, 64, .inl Ftx)), (yrh, .inl (cI, 5, .inl Grh_5)), (yrw, .inl (cI, 5, .inl Grw_6)), (yrk, .inl (cI, 5, .inl Grk_7)), (yrt, .inl (cI, 30, .inl Grt_8)), (ywi, .inl (cI, 5, .inl Fwi)), (yki, .inl (cI, 5, .inl Fki)), (yse, .inl (cI, 7, .inl Fse)), (yno, .inl (cI, 96, .inl Fno)), (yik, .inl (cZ, 2, .inl Fik))] H := hP
    have hD : va_D A [(h0, .inr (4, [.int rp1_1, .int ytk, .ref ywi, .ref yki, .ref yse, .ref yno, .ref yrh, .ref yrw, .ref yrk, .ref yrt, .int rp1_1, .int rq1_2, .ref ytx, .int yle, .int at1_3, .int fa1_4, .ref yby, .ref ylo, .ref yhi, .int yac, .int ynx, .ref yro, .ref ygl, .int ysn, .ref yso, .ref ysp, .ref ysw, .long ysd, .ref yik, .ref ykp])), (ytx, .inl (cI, 64, .inl Ftx)), (yrh, .inl (cI, 5, .inl Grh_5)), (yrw, .inl (cI, 5, .inl Grw_6)), (yrk, .inl (cI, 5, .inl Grk_7)), (yrt, .inl (cI, 30, .inl Grt_8)), (ywi, .inl (cI, 5, .inl Fwi)), (yki, .inl (cI, 5, .inl Fki)), (yse, .inl (cI, 7, .inl Fse)), (yno, .inl (cI, 96, .inl Fno)), (yik, .inl (cZ, 2, .inl Fik))] := hD
    refine lv_aload_n hx hb dX4_line_20 rfl (lv_at hl 0 rfl) ?_
    refine lv_aload_n hx hb dX4_line_21 rfl (lv_at hl 0 rfl) ?_
    refine va_get (D := D) (ci := 4) (v := .int rq1_2) (C := RX4) (T := TX4) (N := 30) hx hb hts iX4 hown hK hP 0 rfl rfl 11 (by decide) (hts (.fieldLink RX4 90 "PunchedTicketModel" "readTickets" "I") (List.mem_of_getElem? (i := 3) rfl)) (fun _ h9 => h9) rfl dX4_line_22 ?_
    refine va_put (D := D) (ci := 4) (v := .int rq1_2) (ty := .int) (C := RX4) (T := TX4) (N := 30) hx hb hts iX4 tyX4 tyX4_ok nmX4 hown hK hP hD hS 0 rfl rfl 1 (by decide) (hts (.fieldLink RX4 101 "PunchedTicketModel" "tickets" "I") (List.mem_of_getElem? (i := 4) rfl)) (fun _ h9 => h9) rfl (by decide +kernel) rfl rfl (Nat.le_of_ble_eq_true rfl) dX4_line_25 (fun H locs hP hD hS => ?_)
    have hP : va_P D vwCl [(h0, .inr (4, [.int rp1_1, .int rq1_2, .ref ywi, .ref yki, .ref yse, .ref yno, .ref yrh, .ref yrw, .ref yrk, .ref yrt, .int rp1_1, .int rq1_2, .ref ytx, .int yle, .int at1_3, .int fa1_4, .ref yby, .ref ylo, .ref yhi, .int yac, .int ynx, .ref yro, .ref ygl, .int ysn, .ref yso, .ref ysp, .ref ysw, .long ysd, .ref yik, .ref ykp])), (ytx, .inl (cI, 64, .inl Ftx)), (yrh, .inl (cI, 5, .inl Grh_5)), (yrw, .inl (cI, 5, .inl Grw_6)), (yrk, .inl (cI, 5, .inl Grk_7)), (yrt, .inl (cI, 30, .inl Grt_8)), (ywi, .inl (cI, 5, .inl Fwi)), (yki, .inl (cI, 5, .inl Fki)), (yse, .inl (cI, 7, .inl Fse)), (yno, .inl (cI, 96, .inl Fno)), (yik, .inl (cZ, 2, .inl Fik))] H := hP
    have hD : va_D A [(h0, .inr (4, [.int rp1_1, .int rq1_2, .ref ywi, .ref yki, .ref yse, .ref yno, .ref yrh, .ref yrw, .ref yrk, .ref yrt, .int rp1_1, .int rq1_2, .ref ytx, .int yle, .int at1_3, .int fa1_4, .ref yby, .ref ylo, .ref yhi, .int yac, .int ynx, .ref yro, .ref ygl, .int ysn, .ref yso, .ref ysp, .ref ysw, .long ysd, .ref yik, .ref ykp])), (ytx, .inl (cI, 64, .inl Ftx)), (yrh, .inl (cI, 5, .inl Grh_5)), (yrw, .inl (cI, 5, .inl Grw_6)), (yrk, .inl (cI, 5, .inl Grk_7)), (yrt, .inl (cI, 30, .inl Grt_8)), (ywi, .inl (cI, 5, .inl Fwi)), (yki, .inl (cI, 5, .inl Fki)), (yse, .inl (cI, 7, .inl Fse)), (yno, .inl (cI, 96, .inl Fno)), (yik, .inl (cZ, 2, .inl Fik))] := hD
    refine lv_aload_n hx hb dX4_line_28 rfl (lv_at hl 0 rfl) ?_
    refine va_get (D := D) (ci := 4) (v := .ref yno) (C := RX4) (T := TX4) (N := 30) hx hb hts iX4 hown hK hP 0 rfl rfl 5 (by decide) (hts (.fieldLink RX4 19 "PunchedTicketModel" "now" "[I") (List.mem_of_getElem? (i := 5) rfl)) (fun _ h9 => h9) rfl dX4_line_29 ?_
    refine lv_iconst (v := 0) hx hb dX4_line_32 (by decide) ?_
    refine lv_iconst (v := 0) hx hb dX4_line_33 (by decide) ?_
    refine va_iast hx hb hK hP hD hS 9 0 rfl rfl (vp_in_iff.mpr (by decide)) dX4_line_34 (fun H locs hP hD hS => ?_)
    obtain ⟨f_13, ef_13⟩ : ∃ g : Nat → Int32, upd Fno (0 : Int32).toNatClampNeg 0 = g := ⟨_, rfl⟩
    rw [ef_13] at hP hD
    have hP : va_P D vwCl [(h0, .inr (4, [.int rp1_1, .int rq1_2, .ref ywi, .ref yki, .ref yse, .ref yno, .ref yrh, .ref yrw, .ref yrk, .ref yrt, .int rp1_1, .int rq1_2, .ref ytx, .int yle, .int at1_3, .int fa1_4, .ref yby, .ref ylo, .ref yhi, .int yac, .int ynx, .ref yro, .ref ygl, .int ysn, .ref yso, .ref ysp, .ref ysw, .long ysd, .ref yik, .ref ykp])), (ytx, .inl (cI, 64, .inl Ftx)), (yrh, .inl (cI, 5, .inl Grh_5)), (yrw, .inl (cI, 5, .inl Grw_6)), (yrk, .inl (cI, 5, .inl Grk_7)), (yrt, .inl (cI, 30, .inl Grt_8)), (ywi, .inl (cI, 5, .inl Fwi)), (yki, .inl (cI, 5, .inl Fki)), (yse, .inl (cI, 7, .inl Fse)), (yno, .inl (cI, 96, .inl f_13)), (yik, .inl (cZ, 2, .inl Fik))] H := hP
    have hD : va_D A [(h0, .inr (4, [.int rp1_1, .int rq1_2, .ref ywi, .ref yki, .ref yse, .ref yno, .ref yrh, .ref yrw, .ref yrk, .ref yrt, .int rp1_1, .int rq1_2, .ref ytx, .int yle, .int at1_3, .int fa1_4, .ref yby, .ref ylo, .ref yhi, .int yac, .int ynx, .ref yro, .ref ygl, .int ysn, .ref yso, .ref ysp, .ref ysw, .long ysd, .ref yik, .ref ykp])), (ytx, .inl (cI, 64, .inl Ftx)), (yrh, .inl (cI, 5, .inl Grh_5)), (yrw, .inl (cI, 5, .inl Grw_6)), (yrk, .inl (cI, 5, .inl Grk_7)), (yrt, .inl (cI, 30, .inl Grt_8)), (ywi, .inl (cI, 5, .inl Fwi)), (yki, .inl (cI, 5, .inl Fki)), (yse, .inl (cI, 7, .inl Fse)), (yno, .inl (cI, 96, .inl f_13)), (yik, .inl (cZ, 2, .inl Fik))] := hD
    refine lv_iconst (v := 0) hx hb dX4_line_35 (by decide) ?_
    refine lv_istore_n (lv' := [(1, .int 0), (0, .ref h0)]) hx hb dX4_line_36 rfl hl (by decide) rfl (fun ls hl => ?_)
    have LOOP_14 : ∀ (fu_14 : Nat) (x1 : Int32) (gwi : Nat → Int32) (gki : Nat → Int32) (gno : Nat → Int32) (H : Heap) (locs : List Loc) (ls : Array Slot), (5 - x1.toInt).toNat < fu_14 → (0 ≤ x1.toInt ∧ x1.toInt ≤ 5) → va_P D vwCl [(h0, .inr (4, [.int rp1_1, .int rq1_2, .ref ywi, .ref yki, .ref yse, .ref yno, .ref yrh, .ref yrw, .ref yrk, .ref yrt, .int rp1_1, .int rq1_2, .ref ytx, .int yle, .int at1_3, .int fa1_4, .ref yby, .ref ylo, .ref yhi, .int yac, .int ynx, .ref yro, .ref ygl, .int ysn, .ref yso, .ref ysp, .ref ysw, .long ysd, .ref yik, .ref ykp])), (ytx, .inl (cI, 64, .inl Ftx)), (yrh, .inl (cI, 5, .inl Grh_5)), (yrw, .inl (cI, 5, .inl Grw_6)), (yrk, .inl (cI, 5, .inl Grk_7)), (yrt, .inl (cI, 30, .inl Grt_8)), (ywi, .inl (cI, 5, .inl gwi)), (yki, .inl (cI, 5, .inl gki)), (yse, .inl (cI, 7, .inl Fse)), (yno, .inl (cI, 96, .inl gno)), (yik, .inl (cZ, 2, .inl Fik))] H → va_D A [(h0, .inr (4, [.int rp1_1, .int rq1_2, .ref ywi, .ref yki, .ref yse, .ref yno, .ref yrh, .ref yrw, .ref yrk, .ref yrt, .int rp1_1, .int rq1_2, .ref ytx, .int yle, .int at1_3, .int fa1_4, .ref yby, .ref ylo, .ref yhi, .int yac, .int ynx, .ref yro, .ref ygl, .int ysn, .ref yso, .ref ysp, .ref ysw, .long ysd, .ref yik, .ref ykp])), (ytx, .inl (cI, 64, .inl Ftx)), (yrh, .inl (cI, 5, .inl Grh_5)), (yrw, .inl (cI, 5, .inl Grw_6)), (yrk, .inl (cI, 5, .inl Grk_7)), (yrt, .inl (cI, 30, .inl Grt_8)), (ywi, .inl (cI, 5, .inl gwi)), (yki, .inl (cI, 5, .inl gki)), (yse, .inl (cI, 7, .inl Fse)), (yno, .inl (cI, 96, .inl gno)), (yik, .inl (cZ, 2, .inl Fik))] → va_S A s.heap H locs → lv_has ls 3 [(0, .ref h0), (1, .int x1)] → W p l e R s m args below meth c H locs 0 0 Q (F0 m 37 ls []) := by
      intro fu_14
      induction fu_14 with
      | zero => intro x1 gwi gki gno H locs ls hmu; exact absurd hmu (Nat.not_lt_zero _)
      | succ fu_14 ih =>
        intro x1 gwi gki gno H locs ls hmu h_x1 hP hD hS hl
        obtain ⟨h_x1a, h_x1b⟩ := h_x1
        have ih_15 := ih
        clear ih
        refine lv_iload_n hx hb dX4_line_37 rfl (lv_at hl 1 rfl) ?_
        refine lv_iconst (v := 5) hx hb dX4_line_38 (by decide) ?_
        refine lv_icmp_ge (tgt := 86) hx hb dX4_line_39 (by decide) (fun c_16 => ?_) (fun c_16 => ?_)
        · have tc_16 := b_le (show (5 : Int32).toInt = 5 by decide) rfl c_16
          refine lv_iconst (v := 0) hx hb dX4_line_86 (by decide) ?_
          refine lv_istore_n (lv' := [(1, .int 0), (0, .ref h0)]) hx hb dX4_line_87 rfl hl (by decide) rfl (fun ls hl => ?_)
          have LOOP_17 : ∀ (fu_17 : Nat) (z1 : Int32) (gnn : Nat → Int32) (gse : Nat → Int32) (H : Heap) (locs : List Loc) (ls : Array Slot), (6 - z1.toInt).toNat < fu_17 → (0 ≤ z1.toInt ∧ z1.toInt ≤ 6) → va_P D vwCl [(h0, .inr (4, [.int rp1_1, .int rq1_2, .ref ywi, .ref yki, .ref yse, .ref yno, .ref yrh, .ref yrw, .ref yrk, .ref yrt, .int rp1_1, .int rq1_2, .ref ytx, .int yle, .int at1_3, .int fa1_4, .ref yby, .ref ylo, .ref yhi, .int yac, .int ynx, .ref yro, .ref ygl, .int ysn, .ref yso, .ref ysp, .ref ysw, .long ysd, .ref yik, .ref ykp])), (ytx, .inl (cI, 64, .inl Ftx)), (yrh, .inl (cI, 5, .inl Grh_5)), (yrw, .inl (cI, 5, .inl Grw_6)), (yrk, .inl (cI, 5, .inl Grk_7)), (yrt, .inl (cI, 30, .inl Grt_8)), (ywi, .inl (cI, 5, .inl gwi)), (yki, .inl (cI, 5, .inl gki)), (yse, .inl (cI, 7, .inl gse)), (yno, .inl (cI, 96, .inl gnn)), (yik, .inl (cZ, 2, .inl Fik))] H → va_D A [(h0, .inr (4, [.int rp1_1, .int rq1_2, .ref ywi, .ref yki, .ref yse, .ref yno, .ref yrh, .ref yrw, .ref yrk, .ref yrt, .int rp1_1, .int rq1_2, .ref ytx, .int yle, .int at1_3, .int fa1_4, .ref yby, .ref ylo, .ref yhi, .int yac, .int ynx, .ref yro, .ref ygl, .int ysn, .ref yso, .ref ysp, .ref ysw, .long ysd, .ref yik, .ref ykp])), (ytx, .inl (cI, 64, .inl Ftx)), (yrh, .inl (cI, 5, .inl Grh_5)), (yrw, .inl (cI, 5, .inl Grw_6)), (yrk, .inl (cI, 5, .inl Grk_7)), (yrt, .inl (cI, 30, .inl Grt_8)), (ywi, .inl (cI, 5, .inl gwi)), (yki, .inl (cI, 5, .inl gki)), (yse, .inl (cI, 7, .inl gse)), (yno, .inl (cI, 96, .inl gnn)), (yik, .inl (cZ, 2, .inl Fik))] → va_S A s.heap H locs → lv_has ls 3 [(0, .ref h0), (1, .int z1)] → W p l e R s m args below meth c H locs 0 0 Q (F0 m 88 ls []) := by
            intro fu_17
            induction fu_17 with
            | zero => intro z1 gnn gse H locs ls hmu; exact absurd hmu (Nat.not_lt_zero _)
            | succ fu_17 ih =>
              intro z1 gnn gse H locs ls hmu h_z1 hP hD hS hl
              obtain ⟨h_z1a, h_z1b⟩ := h_z1
              have ih_18 := ih
              clear ih
              refine lv_iload_n hx hb dX4_line_88 rfl (lv_at hl 1 rfl) ?_
              refine lv_aload_n hx hb dX4_line_89 rfl (lv_at hl 0 rfl) ?_
              refine va_get (D := D) (ci := 4) (v := .int rq1_2) (C := RX4) (T := TX4) (N := 30) hx hb hts iX4 hown hK hP 0 rfl rfl 1 (by decide) (hts (.fieldLink RX4 101 "PunchedTicketModel" "tickets" "I") (List.mem_of_getElem? (i := 4) rfl)) (fun _ h9 => h9) rfl dX4_line_90 ?_
              refine lv_icmp_ge (tgt := 212) hx hb dX4_line_93 (by decide) (fun c_19 => ?_) (fun c_19 => ?_)
              · have tc_19 := b_le rfl rfl c_19
                refine lv_aload_n hx hb dX4_line_212 rfl (lv_at hl 0 rfl) ?_
                refine lv_iconst (v := 0) hx hb dX4_line_213 (by decide) ?_
                refine va_put (D := D) (ci := 4) (v := .int 0) (ty := .int) (C := RX4) (T := TX4) (N := 30) hx hb hts iX4 tyX4 tyX4_ok nmX4 hown hK hP hD hS 0 rfl rfl 19 (by decide) (hts (.fieldLink RX4 104 "PunchedTicketModel" "acts" "I") (List.mem_of_getElem? (i := 13) rfl)) (fun _ h9 => h9) rfl (by decide +kernel) rfl rfl (Nat.le_of_ble_eq_true rfl) dX4_line_214 (fun H locs hP hD hS => ?_)
                have hP : va_P D vwCl [(h0, .inr (4, [.int rp1_1, .int rq1_2, .ref ywi, .ref yki, .ref yse, .ref yno, .ref yrh, .ref yrw, .ref yrk, .ref yrt, .int rp1_1, .int rq1_2, .ref ytx, .int yle, .int at1_3, .int fa1_4, .ref yby, .ref ylo, .ref yhi, .int 0, .int ynx, .ref yro, .ref ygl, .int ysn, .ref yso, .ref ysp, .ref ysw, .long ysd, .ref yik, .ref ykp])), (ytx, .inl (cI, 64, .inl Ftx)), (yrh, .inl (cI, 5, .inl Grh_5)), (yrw, .inl (cI, 5, .inl Grw_6)), (yrk, .inl (cI, 5, .inl Grk_7)), (yrt, .inl (cI, 30, .inl Grt_8)), (ywi, .inl (cI, 5, .inl gwi)), (yki, .inl (cI, 5, .inl gki)), (yse, .inl (cI, 7, .inl gse)), (yno, .inl (cI, 96, .inl gnn)), (yik, .inl (cZ, 2, .inl Fik))] H := hP
                have hD : va_D A [(h0, .inr (4, [.int rp1_1, .int rq1_2, .ref ywi, .ref yki, .ref yse, .ref yno, .ref yrh, .ref yrw, .ref yrk, .ref yrt, .int rp1_1, .int rq1_2, .ref ytx, .int yle, .int at1_3, .int fa1_4, .ref yby, .ref ylo, .ref yhi, .int 0, .int ynx, .ref yro, .ref ygl, .int ysn, .ref yso, .ref ysp, .ref ysw, .long ysd, .ref yik, .ref ykp])), (ytx, .inl (cI, 64, .inl Ftx)), (yrh, .inl (cI, 5, .inl Grh_5)), (yrw, .inl (cI, 5, .inl Grw_6)), (yrk, .inl (cI, 5, .inl Grk_7)), (yrt, .inl (cI, 30, .inl Grt_8)), (ywi, .inl (cI, 5, .inl gwi)), (yki, .inl (cI, 5, .inl gki)), (yse, .inl (cI, 7, .inl gse)), (yno, .inl (cI, 96, .inl gnn)), (yik, .inl (cZ, 2, .inl Fik))] := hD
                refine lv_aload_n hx hb dX4_line_217 rfl (lv_at hl 0 rfl) ?_
                refine va_get (D := D) (ci := 4) (v := .ref yik) (C := RX4) (T := TX4) (N := 30) hx hb hts iX4 hown hK hP 0 rfl rfl 28 (by decide) (hts (.fieldLink RX4 61 "PunchedTicketModel" "isKept" "[Z") (List.mem_of_getElem? (i := 14) rfl)) (fun _ h9 => h9) rfl dX4_line_218 ?_
                refine lv_iconst (v := 0) hx hb dX4_line_221 (by decide) ?_
                refine lv_iconst (v := 0) hx hb dX4_line_222 (by decide) ?_
                refine va_zast hx hb hK hP hD hS 10 1 rfl rfl (vp_in_iff.mpr (by decide)) dX4_line_223 (fun H locs hP hD hS => ?_)
                obtain ⟨f_20, ef_20⟩ : ∃ g : Nat → Int32, upd Fik (0 : Int32).toNatClampNeg (vp_nar .boolean 0) = g := ⟨_, rfl⟩
                rw [ef_20] at hP hD
                have hP : va_P D vwCl [(h0, .inr (4, [.int rp1_1, .int rq1_2, .ref ywi, .ref yki, .ref yse, .ref yno, .ref yrh, .ref yrw, .ref yrk, .ref yrt, .int rp1_1, .int rq1_2, .ref ytx, .int yle, .int at1_3, .int fa1_4, .ref yby, .ref ylo, .ref yhi, .int 0, .int ynx, .ref yro, .ref ygl, .int ysn, .ref yso, .ref ysp, .ref ysw, .long ysd, .ref yik, .ref ykp])), (ytx, .inl (cI, 64, .inl Ftx)), (yrh, .inl (cI, 5, .inl Grh_5)), (yrw, .inl (cI, 5, .inl Grw_6)), (yrk, .inl (cI, 5, .inl Grk_7)), (yrt, .inl (cI, 30, .inl Grt_8)), (ywi, .inl (cI, 5, .inl gwi)), (yki, .inl (cI, 5, .inl gki)), (yse, .inl (cI, 7, .inl gse)), (yno, .inl (cI, 96, .inl gnn)), (yik, .inl (cZ, 2, .inl f_20))] H := hP
                have hD : va_D A [(h0, .inr (4, [.int rp1_1, .int rq1_2, .ref ywi, .ref yki, .ref yse, .ref yno, .ref yrh, .ref yrw, .ref yrk, .ref yrt, .int rp1_1, .int rq1_2, .ref ytx, .int yle, .int at1_3, .int fa1_4, .ref yby, .ref ylo, .ref yhi, .int 0, .int ynx, .ref yro, .ref ygl, .int ysn, .ref yso, .ref ysp, .ref ysw, .long ysd, .ref yik, .ref ykp])), (ytx, .inl (cI, 64, .inl Ftx)), (yrh, .inl (cI, 5, .inl Grh_5)), (yrw, .inl (cI, 5, .inl Grw_6)), (yrk, .inl (cI, 5, .inl Grk_7)), (yrt, .inl (cI, 30, .inl Grt_8)), (ywi, .inl (cI, 5, .inl gwi)), (yki, .inl (cI, 5, .inl gki)), (yse, .inl (cI, 7, .inl gse)), (yno, .inl (cI, 96, .inl gnn)), (yik, .inl (cZ, 2, .inl f_20))] := hD
                refine lv_aload_n hx hb dX4_line_224 rfl (lv_at hl 0 rfl) ?_
                refine va_get (D := D) (ci := 4) (v := .ref yik) (C := RX4) (T := TX4) (N := 30) hx hb hts iX4 hown hK hP 0 rfl rfl 28 (by decide) (hts (.fieldLink RX4 61 "PunchedTicketModel" "isKept" "[Z") (List.mem_of_getElem? (i := 14) rfl)) (fun _ h9 => h9) rfl dX4_line_225 ?_
                refine lv_iconst (v := 1) hx hb dX4_line_228 (by decide) ?_
                refine lv_iconst (v := 0) hx hb dX4_line_229 (by decide) ?_
                refine va_zast hx hb hK hP hD hS 10 1 rfl rfl (vp_in_iff.mpr (by decide)) dX4_line_230 (fun H locs hP hD hS => ?_)
                obtain ⟨f_21, ef_21⟩ : ∃ g : Nat → Int32, upd f_20 (1 : Int32).toNatClampNeg (vp_nar .boolean 0) = g := ⟨_, rfl⟩
                rw [ef_21] at hP hD
                have hP : va_P D vwCl [(h0, .inr (4, [.int rp1_1, .int rq1_2, .ref ywi, .ref yki, .ref yse, .ref yno, .ref yrh, .ref yrw, .ref yrk, .ref yrt, .int rp1_1, .int rq1_2, .ref ytx, .int yle, .int at1_3, .int fa1_4, .ref yby, .ref ylo, .ref yhi, .int 0, .int ynx, .ref yro, .ref ygl, .int ysn, .ref yso, .ref ysp, .ref ysw, .long ysd, .ref yik, .ref ykp])), (ytx, .inl (cI, 64, .inl Ftx)), (yrh, .inl (cI, 5, .inl Grh_5)), (yrw, .inl (cI, 5, .inl Grw_6)), (yrk, .inl (cI, 5, .inl Grk_7)), (yrt, .inl (cI, 30, .inl Grt_8)), (ywi, .inl (cI, 5, .inl gwi)), (yki, .inl (cI, 5, .inl gki)), (yse, .inl (cI, 7, .inl gse)), (yno, .inl (cI, 96, .inl gnn)), (yik, .inl (cZ, 2, .inl f_21))] H := hP
                have hD : va_D A [(h0, .inr (4, [.int rp1_1, .int rq1_2, .ref ywi, .ref yki, .ref yse, .ref yno, .ref yrh, .ref yrw, .ref yrk, .ref yrt, .int rp1_1, .int rq1_2, .ref ytx, .int yle, .int at1_3, .int fa1_4, .ref yby, .ref ylo, .ref yhi, .int 0, .int ynx, .ref yro, .ref ygl, .int ysn, .ref yso, .ref ysp, .ref ysw, .long ysd, .ref yik, .ref ykp])), (ytx, .inl (cI, 64, .inl Ftx)), (yrh, .inl (cI, 5, .inl Grh_5)), (yrw, .inl (cI, 5, .inl Grw_6)), (yrk, .inl (cI, 5, .inl Grk_7)), (yrt, .inl (cI, 30, .inl Grt_8)), (ywi, .inl (cI, 5, .inl gwi)), (yki, .inl (cI, 5, .inl gki)), (yse, .inl (cI, 7, .inl gse)), (yno, .inl (cI, 96, .inl gnn)), (yik, .inl (cZ, 2, .inl f_21))] := hD
                refine lv_bipush (v := 10) hx hb dX4_line_231 (by decide) ?_
                refine lv_aload_n hx hb dX4_line_233 rfl (lv_at hl 0 rfl) ?_
                refine va_get (D := D) (ci := 4) (v := .int rp1_1) (C := RX4) (T := TX4) (N := 30) hx hb hts iX4 hown hK hP 0 rfl rfl 0 (by decide) (hts (.fieldLink RX4 68 "PunchedTicketModel" "people" "I") (List.mem_of_getElem? (i := 2) rfl)) (fun _ h9 => h9) rfl dX4_line_234 ?_
                refine lv_imul hx hb dX4_line_237 ?_
                refine lv_topi (fun v_22 ev_22 => ?_)
                have tv_22 : v_22.toInt = (10 : Int) * rp1_1.toInt := by rw [ev_22]; exact ti_mul (x := 10) (y := rp1_1) (show -2147483648 ≤ (10 : Int) * rp1_1.toInt by omega) (show (10 : Int) * rp1_1.toInt < 2147483648 by omega)
                refine lv_aload_n hx hb dX4_line_238 rfl (lv_at hl 0 rfl) ?_
                refine va_get (D := D) (ci := 4) (v := .int rq1_2) (C := RX4) (T := TX4) (N := 30) hx hb hts iX4 hown hK hP 0 rfl rfl 1 (by decide) (hts (.fieldLink RX4 101 "PunchedTicketModel" "tickets" "I") (List.mem_of_getElem? (i := 4) rfl)) (fun _ h9 => h9) rfl dX4_line_239 ?_
                refine lv_iadd hx hb dX4_line_242 ?_
                refine lv_topi (fun v_23 ev_23 => ?_)
                have tv_23 : v_23.toInt = v_22.toInt + rq1_2.toInt := by rw [ev_23]; exact ti_add (x := v_22) (y := rq1_2) (show -2147483648 ≤ v_22.toInt + rq1_2.toInt by omega) (show v_22.toInt + rq1_2.toInt < 2147483648 by omega)
                exact ret_i (post := (fun (r : Int32) (u : Int32 × Int32 × Int32 × Int32 × Int32 × Int32 × Int32 × (Nat → Int32) × (Nat → Int32) × (Nat → Int32) × (Nat → Int32) × (Nat → Int32) × (Nat → Int32) × (Nat → Int32) × (Nat → Int32) × (Nat → Int32)) => (0 ≤ u.1.toInt ∧ u.1.toInt ≤ 5) ∧ (0 ≤ u.2.1.toInt ∧ u.2.1.toInt ≤ 6) ∧ (0 ≤ u.2.2.2.2.2.2.1.toInt ∧ u.2.2.2.2.2.2.1.toInt ≤ 14))) (W1 := (fun u => [(h0, .inr (4, [.int u.1, .int u.2.1, .ref ywi, .ref yki, .ref yse, .ref yno, .ref yrh, .ref yrw, .ref yrk, .ref yrt, .int u.2.2.1, .int u.2.2.2.1, .ref ytx, .int yle, .int u.2.2.2.2.1, .int u.2.2.2.2.2.1, .ref yby, .ref ylo, .ref yhi, .int u.2.2.2.2.2.2.1, .int ynx, .ref yro, .ref ygl, .int ysn, .ref yso, .ref ysp, .ref ysw, .long ysd, .ref yik, .ref ykp])), (ytx, .inl (cI, 64, .inl Ftx)), (yrh, .inl (cI, 5, .inl u.2.2.2.2.2.2.2.1)), (yrw, .inl (cI, 5, .inl u.2.2.2.2.2.2.2.2.1)), (yrk, .inl (cI, 5, .inl u.2.2.2.2.2.2.2.2.2.1)), (yrt, .inl (cI, 30, .inl u.2.2.2.2.2.2.2.2.2.2.1)), (ywi, .inl (cI, 5, .inl u.2.2.2.2.2.2.2.2.2.2.2.1)), (yki, .inl (cI, 5, .inl u.2.2.2.2.2.2.2.2.2.2.2.2.1)), (yse, .inl (cI, 7, .inl u.2.2.2.2.2.2.2.2.2.2.2.2.2.1)), (yno, .inl (cI, 96, .inl u.2.2.2.2.2.2.2.2.2.2.2.2.2.2.1)), (yik, .inl (cZ, 2, .inl u.2.2.2.2.2.2.2.2.2.2.2.2.2.2.2))])) (rp1_1, rq1_2, rp1_1, rq1_2, at1_3, fa1_4, 0, Grh_5, Grw_6, Grk_7, Grt_8, gwi, gki, gse, gnn, f_21) hx hb hr hlocks rfl hQ hK hP hD hS ⟨by decide, by decide⟩ dX4_line_243 (show (0 ≤ rp1_1.toInt ∧ rp1_1.toInt ≤ 5) ∧ (0 ≤ rq1_2.toInt ∧ rq1_2.toInt ≤ 6) ∧ (0 ≤ (0 : Int) ∧ (0 : Int) ≤ 14) by omega)
              · have tc_19 := b_nle rfl rfl c_19
                refine lv_bipush (v := 6) hx hb dX4_line_96 (by decide) ?_
                refine lv_bipush (v := 6) hx hb dX4_line_98 (by decide) ?_
                refine lv_iload_n hx hb dX4_line_100 rfl (lv_at hl 1 rfl) ?_
                refine lv_imul hx hb dX4_line_101 ?_
                refine lv_topi (fun v_24 ev_24 => ?_)
                have tv_24 : v_24.toInt = (6 : Int) * z1.toInt := by rw [ev_24]; exact ti_mul (x := 6) (y := z1) (show -2147483648 ≤ (6 : Int) * z1.toInt by omega) (show (6 : Int) * z1.toInt < 2147483648 by omega)
                refine lv_iadd hx hb dX4_line_102 ?_
                refine lv_topi (fun v_25 ev_25 => ?_)
                have tv_25 : v_25.toInt = (6 : Int) + v_24.toInt := by rw [ev_25]; exact ti_add (x := 6) (y := v_24) (show -2147483648 ≤ (6 : Int) + v_24.toInt by omega) (show (6 : Int) + v_24.toInt < 2147483648 by omega)
                refine lv_istore_n (lv' := [(2, .int v_25), (0, .ref h0), (1, .int z1)]) hx hb dX4_line_103 rfl hl (by decide) rfl (fun ls hl => ?_)
                refine lv_aload_n hx hb dX4_line_104 rfl (lv_at hl 1 rfl) ?_
                refine va_get (D := D) (ci := 4) (v := .ref yno) (C := RX4) (T := TX4) (N := 30) hx hb hts iX4 hown hK hP 0 rfl rfl 5 (by decide) (hts (.fieldLink RX4 19 "PunchedTicketModel" "now" "[I") (List.mem_of_getElem? (i := 5) rfl)) (fun _ h9 => h9) rfl dX4_line_105 ?_
                refine lv_iload_n hx hb dX4_line_108 rfl (lv_at hl 0 rfl) ?_
                refine lv_aload_n hx hb dX4_line_109 rfl (lv_at hl 1 rfl) ?_
                refine va_get (D := D) (ci := 4) (v := .ref yrt) (C := RX4) (T := TX4) (N := 30) hx hb hts iX4 hown hK hP 0 rfl rfl 9 (by decide) (hts (.fieldLink RX4 31 "PunchedTicketModel" "readTicket" "[I") (List.mem_of_getElem? (i := 11) rfl)) (fun _ h9 => h9) rfl dX4_line_110 ?_
                refine lv_iconst (v := 5) hx hb dX4_line_113 (by decide) ?_
                refine lv_iload_n hx hb dX4_line_114 rfl (lv_at hl 2 rfl) ?_
                refine lv_imul hx hb dX4_line_115 ?_
                refine lv_topi (fun v_26 ev_26 => ?_)
                have tv_26 : v_26.toInt = (5 : Int) * z1.toInt := by rw [ev_26]; exact ti_mul (x := 5) (y := z1) (show -2147483648 ≤ (5 : Int) * z1.toInt by omega) (show (5 : Int) * z1.toInt < 2147483648 by omega)
                refine va_iald hx hb hK hP 5 0 rfl rfl (vp_in_iff.mpr ⟨by omega, by omega⟩) dX4_line_116 ?_
                refine lv_topi (fun v_27 ev_27 => ?_)
                refine va_iast hx hb hK hP hD hS 9 0 rfl rfl (vp_in_iff.mpr ⟨by omega, by omega⟩) dX4_line_117 (fun H locs hP hD hS => ?_)
                obtain ⟨f_28, ef_28⟩ : ∃ g : Nat → Int32, upd gnn (v_25 : Int32).toNatClampNeg v_27 = g := ⟨_, rfl⟩
                rw [ef_28] at hP hD
                have hP : va_P D vwCl [(h0, .inr (4, [.int rp1_1, .int rq1_2, .ref ywi, .ref yki, .ref yse, .ref yno, .ref yrh, .ref yrw, .ref yrk, .ref yrt, .int rp1_1, .int rq1_2, .ref ytx, .int yle, .int at1_3, .int fa1_4, .ref yby, .ref ylo, .ref yhi, .int yac, .int ynx, .ref yro, .ref ygl, .int ysn, .ref yso, .ref ysp, .ref ysw, .long ysd, .ref yik, .ref ykp])), (ytx, .inl (cI, 64, .inl Ftx)), (yrh, .inl (cI, 5, .inl Grh_5)), (yrw, .inl (cI, 5, .inl Grw_6)), (yrk, .inl (cI, 5, .inl Grk_7)), (yrt, .inl (cI, 30, .inl Grt_8)), (ywi, .inl (cI, 5, .inl gwi)), (yki, .inl (cI, 5, .inl gki)), (yse, .inl (cI, 7, .inl gse)), (yno, .inl (cI, 96, .inl f_28)), (yik, .inl (cZ, 2, .inl Fik))] H := hP
                have hD : va_D A [(h0, .inr (4, [.int rp1_1, .int rq1_2, .ref ywi, .ref yki, .ref yse, .ref yno, .ref yrh, .ref yrw, .ref yrk, .ref yrt, .int rp1_1, .int rq1_2, .ref ytx, .int yle, .int at1_3, .int fa1_4, .ref yby, .ref ylo, .ref yhi, .int yac, .int ynx, .ref yro, .ref ygl, .int ysn, .ref yso, .ref ysp, .ref ysw, .long ysd, .ref yik, .ref ykp])), (ytx, .inl (cI, 64, .inl Ftx)), (yrh, .inl (cI, 5, .inl Grh_5)), (yrw, .inl (cI, 5, .inl Grw_6)), (yrk, .inl (cI, 5, .inl Grk_7)), (yrt, .inl (cI, 30, .inl Grt_8)), (ywi, .inl (cI, 5, .inl gwi)), (yki, .inl (cI, 5, .inl gki)), (yse, .inl (cI, 7, .inl gse)), (yno, .inl (cI, 96, .inl f_28)), (yik, .inl (cZ, 2, .inl Fik))] := hD
                refine lv_aload_n hx hb dX4_line_118 rfl (lv_at hl 1 rfl) ?_
                refine va_get (D := D) (ci := 4) (v := .ref yno) (C := RX4) (T := TX4) (N := 30) hx hb hts iX4 hown hK hP 0 rfl rfl 5 (by decide) (hts (.fieldLink RX4 19 "PunchedTicketModel" "now" "[I") (List.mem_of_getElem? (i := 5) rfl)) (fun _ h9 => h9) rfl dX4_line_119 ?_
                refine lv_iload_n hx hb dX4_line_122 rfl (lv_at hl 0 rfl) ?_
                refine lv_iconst (v := 1) hx hb dX4_line_123 (by decide) ?_
                refine lv_iadd hx hb dX4_line_124 ?_
                refine lv_topi (fun v_29 ev_29 => ?_)
                have tv_29 : v_29.toInt = v_25.toInt + (1 : Int) := by rw [ev_29]; exact ti_add (x := v_25) (y := 1) (show -2147483648 ≤ v_25.toInt + (1 : Int) by omega) (show v_25.toInt + (1 : Int) < 2147483648 by omega)
                refine lv_aload_n hx hb dX4_line_125 rfl (lv_at hl 1 rfl) ?_
                refine va_get (D := D) (ci := 4) (v := .ref yrt) (C := RX4) (T := TX4) (N := 30) hx hb hts iX4 hown hK hP 0 rfl rfl 9 (by decide) (hts (.fieldLink RX4 31 "PunchedTicketModel" "readTicket" "[I") (List.mem_of_getElem? (i := 11) rfl)) (fun _ h9 => h9) rfl dX4_line_126 ?_
                refine lv_iconst (v := 5) hx hb dX4_line_129 (by decide) ?_
                refine lv_iload_n hx hb dX4_line_130 rfl (lv_at hl 2 rfl) ?_
                refine lv_imul hx hb dX4_line_131 ?_
                refine lv_topi (fun v_30 ev_30 => ?_)
                have tv_30 : v_30.toInt = (5 : Int) * z1.toInt := by rw [ev_30]; exact ti_mul (x := 5) (y := z1) (show -2147483648 ≤ (5 : Int) * z1.toInt by omega) (show (5 : Int) * z1.toInt < 2147483648 by omega)
                refine lv_iconst (v := 1) hx hb dX4_line_132 (by decide) ?_
                refine lv_iadd hx hb dX4_line_133 ?_
                refine lv_topi (fun v_31 ev_31 => ?_)
                have tv_31 : v_31.toInt = v_30.toInt + (1 : Int) := by rw [ev_31]; exact ti_add (x := v_30) (y := 1) (show -2147483648 ≤ v_30.toInt + (1 : Int) by omega) (show v_30.toInt + (1 : Int) < 2147483648 by omega)
                refine va_iald hx hb hK hP 5 0 rfl rfl (vp_in_iff.mpr ⟨by omega, by omega⟩) dX4_line_134 ?_
                refine lv_topi (fun v_32 ev_32 => ?_)
                refine va_iast hx hb hK hP hD hS 9 0 rfl rfl (vp_in_iff.mpr ⟨by omega, by omega⟩) dX4_line_135 (fun H locs hP hD hS => ?_)
                obtain ⟨f_33, ef_33⟩ : ∃ g : Nat → Int32, upd f_28 (v_29 : Int32).toNatClampNeg v_32 = g := ⟨_, rfl⟩
                rw [ef_33] at hP hD
                have hP : va_P D vwCl [(h0, .inr (4, [.int rp1_1, .int rq1_2, .ref ywi, .ref yki, .ref yse, .ref yno, .ref yrh, .ref yrw, .ref yrk, .ref yrt, .int rp1_1, .int rq1_2, .ref ytx, .int yle, .int at1_3, .int fa1_4, .ref yby, .ref ylo, .ref yhi, .int yac, .int ynx, .ref yro, .ref ygl, .int ysn, .ref yso, .ref ysp, .ref ysw, .long ysd, .ref yik, .ref ykp])), (ytx, .inl (cI, 64, .inl Ftx)), (yrh, .inl (cI, 5, .inl Grh_5)), (yrw, .inl (cI, 5, .inl Grw_6)), (yrk, .inl (cI, 5, .inl Grk_7)), (yrt, .inl (cI, 30, .inl Grt_8)), (ywi, .inl (cI, 5, .inl gwi)), (yki, .inl (cI, 5, .inl gki)), (yse, .inl (cI, 7, .inl gse)), (yno, .inl (cI, 96, .inl f_33)), (yik, .inl (cZ, 2, .inl Fik))] H := hP
                have hD : va_D A [(h0, .inr (4, [.int rp1_1, .int rq1_2, .ref ywi, .ref yki, .ref yse, .ref yno, .ref yrh, .ref yrw, .ref yrk, .ref yrt, .int rp1_1, .int rq1_2, .ref ytx, .int yle, .int at1_3, .int fa1_4, .ref yby, .ref ylo, .ref yhi, .int yac, .int ynx, .ref yro, .ref ygl, .int ysn, .ref yso, .ref ysp, .ref ysw, .long ysd, .ref yik, .ref ykp])), (ytx, .inl (cI, 64, .inl Ftx)), (yrh, .inl (cI, 5, .inl Grh_5)), (yrw, .inl (cI, 5, .inl Grw_6)), (yrk, .inl (cI, 5, .inl Grk_7)), (yrt, .inl (cI, 30, .inl Grt_8)), (ywi, .inl (cI, 5, .inl gwi)), (yki, .inl (cI, 5, .inl gki)), (yse, .inl (cI, 7, .inl gse)), (yno, .inl (cI, 96, .inl f_33)), (yik, .inl (cZ, 2, .inl Fik))] := hD
                refine lv_aload_n hx hb dX4_line_136 rfl (lv_at hl 1 rfl) ?_
                refine va_get (D := D) (ci := 4) (v := .ref yno) (C := RX4) (T := TX4) (N := 30) hx hb hts iX4 hown hK hP 0 rfl rfl 5 (by decide) (hts (.fieldLink RX4 19 "PunchedTicketModel" "now" "[I") (List.mem_of_getElem? (i := 5) rfl)) (fun _ h9 => h9) rfl dX4_line_137 ?_
                refine lv_iload_n hx hb dX4_line_140 rfl (lv_at hl 0 rfl) ?_
                refine lv_iconst (v := 2) hx hb dX4_line_141 (by decide) ?_
                refine lv_iadd hx hb dX4_line_142 ?_
                refine lv_topi (fun v_34 ev_34 => ?_)
                have tv_34 : v_34.toInt = v_25.toInt + (2 : Int) := by rw [ev_34]; exact ti_add (x := v_25) (y := 2) (show -2147483648 ≤ v_25.toInt + (2 : Int) by omega) (show v_25.toInt + (2 : Int) < 2147483648 by omega)
                refine lv_aload_n hx hb dX4_line_143 rfl (lv_at hl 1 rfl) ?_
                refine va_get (D := D) (ci := 4) (v := .ref yrt) (C := RX4) (T := TX4) (N := 30) hx hb hts iX4 hown hK hP 0 rfl rfl 9 (by decide) (hts (.fieldLink RX4 31 "PunchedTicketModel" "readTicket" "[I") (List.mem_of_getElem? (i := 11) rfl)) (fun _ h9 => h9) rfl dX4_line_144 ?_
                refine lv_iconst (v := 5) hx hb dX4_line_147 (by decide) ?_
                refine lv_iload_n hx hb dX4_line_148 rfl (lv_at hl 2 rfl) ?_
                refine lv_imul hx hb dX4_line_149 ?_
                refine lv_topi (fun v_35 ev_35 => ?_)
                have tv_35 : v_35.toInt = (5 : Int) * z1.toInt := by rw [ev_35]; exact ti_mul (x := 5) (y := z1) (show -2147483648 ≤ (5 : Int) * z1.toInt by omega) (show (5 : Int) * z1.toInt < 2147483648 by omega)
                refine lv_iconst (v := 2) hx hb dX4_line_150 (by decide) ?_
                refine lv_iadd hx hb dX4_line_151 ?_
                refine lv_topi (fun v_36 ev_36 => ?_)
                have tv_36 : v_36.toInt = v_35.toInt + (2 : Int) := by rw [ev_36]; exact ti_add (x := v_35) (y := 2) (show -2147483648 ≤ v_35.toInt + (2 : Int) by omega) (show v_35.toInt + (2 : Int) < 2147483648 by omega)
                refine va_iald hx hb hK hP 5 0 rfl rfl (vp_in_iff.mpr ⟨by omega, by omega⟩) dX4_line_152 ?_
                refine lv_topi (fun v_37 ev_37 => ?_)
                refine va_iast hx hb hK hP hD hS 9 0 rfl rfl (vp_in_iff.mpr ⟨by omega, by omega⟩) dX4_line_153 (fun H locs hP hD hS => ?_)
                obtain ⟨f_38, ef_38⟩ : ∃ g : Nat → Int32, upd f_33 (v_34 : Int32).toNatClampNeg v_37 = g := ⟨_, rfl⟩
                rw [ef_38] at hP hD
                have hP : va_P D vwCl [(h0, .inr (4, [.int rp1_1, .int rq1_2, .ref ywi, .ref yki, .ref yse, .ref yno, .ref yrh, .ref yrw, .ref yrk, .ref yrt, .int rp1_1, .int rq1_2, .ref ytx, .int yle, .int at1_3, .int fa1_4, .ref yby, .ref ylo, .ref yhi, .int yac, .int ynx, .ref yro, .ref ygl, .int ysn, .ref yso, .ref ysp, .ref ysw, .long ysd, .ref yik, .ref ykp])), (ytx, .inl (cI, 64, .inl Ftx)), (yrh, .inl (cI, 5, .inl Grh_5)), (yrw, .inl (cI, 5, .inl Grw_6)), (yrk, .inl (cI, 5, .inl Grk_7)), (yrt, .inl (cI, 30, .inl Grt_8)), (ywi, .inl (cI, 5, .inl gwi)), (yki, .inl (cI, 5, .inl gki)), (yse, .inl (cI, 7, .inl gse)), (yno, .inl (cI, 96, .inl f_38)), (yik, .inl (cZ, 2, .inl Fik))] H := hP
                have hD : va_D A [(h0, .inr (4, [.int rp1_1, .int rq1_2, .ref ywi, .ref yki, .ref yse, .ref yno, .ref yrh, .ref yrw, .ref yrk, .ref yrt, .int rp1_1, .int rq1_2, .ref ytx, .int yle, .int at1_3, .int fa1_4, .ref yby, .ref ylo, .ref yhi, .int yac, .int ynx, .ref yro, .ref ygl, .int ysn, .ref yso, .ref ysp, .ref ysw, .long ysd, .ref yik, .ref ykp])), (ytx, .inl (cI, 64, .inl Ftx)), (yrh, .inl (cI, 5, .inl Grh_5)), (yrw, .inl (cI, 5, .inl Grw_6)), (yrk, .inl (cI, 5, .inl Grk_7)), (yrt, .inl (cI, 30, .inl Grt_8)), (ywi, .inl (cI, 5, .inl gwi)), (yki, .inl (cI, 5, .inl gki)), (yse, .inl (cI, 7, .inl gse)), (yno, .inl (cI, 96, .inl f_38)), (yik, .inl (cZ, 2, .inl Fik))] := hD
                refine lv_aload_n hx hb dX4_line_154 rfl (lv_at hl 1 rfl) ?_
                refine va_get (D := D) (ci := 4) (v := .ref yno) (C := RX4) (T := TX4) (N := 30) hx hb hts iX4 hown hK hP 0 rfl rfl 5 (by decide) (hts (.fieldLink RX4 19 "PunchedTicketModel" "now" "[I") (List.mem_of_getElem? (i := 5) rfl)) (fun _ h9 => h9) rfl dX4_line_155 ?_
                refine lv_iload_n hx hb dX4_line_158 rfl (lv_at hl 0 rfl) ?_
                refine lv_iconst (v := 3) hx hb dX4_line_159 (by decide) ?_
                refine lv_iadd hx hb dX4_line_160 ?_
                refine lv_topi (fun v_39 ev_39 => ?_)
                have tv_39 : v_39.toInt = v_25.toInt + (3 : Int) := by rw [ev_39]; exact ti_add (x := v_25) (y := 3) (show -2147483648 ≤ v_25.toInt + (3 : Int) by omega) (show v_25.toInt + (3 : Int) < 2147483648 by omega)
                refine lv_aload_n hx hb dX4_line_161 rfl (lv_at hl 1 rfl) ?_
                refine va_get (D := D) (ci := 4) (v := .ref yrt) (C := RX4) (T := TX4) (N := 30) hx hb hts iX4 hown hK hP 0 rfl rfl 9 (by decide) (hts (.fieldLink RX4 31 "PunchedTicketModel" "readTicket" "[I") (List.mem_of_getElem? (i := 11) rfl)) (fun _ h9 => h9) rfl dX4_line_162 ?_
                refine lv_iconst (v := 5) hx hb dX4_line_165 (by decide) ?_
                refine lv_iload_n hx hb dX4_line_166 rfl (lv_at hl 2 rfl) ?_
                refine lv_imul hx hb dX4_line_167 ?_
                refine lv_topi (fun v_40 ev_40 => ?_)
                have tv_40 : v_40.toInt = (5 : Int) * z1.toInt := by rw [ev_40]; exact ti_mul (x := 5) (y := z1) (show -2147483648 ≤ (5 : Int) * z1.toInt by omega) (show (5 : Int) * z1.toInt < 2147483648 by omega)
                refine lv_iconst (v := 4) hx hb dX4_line_168 (by decide) ?_
                refine lv_iadd hx hb dX4_line_169 ?_
                refine lv_topi (fun v_41 ev_41 => ?_)
                have tv_41 : v_41.toInt = v_40.toInt + (4 : Int) := by rw [ev_41]; exact ti_add (x := v_40) (y := 4) (show -2147483648 ≤ v_40.toInt + (4 : Int) by omega) (show v_40.toInt + (4 : Int) < 2147483648 by omega)
                refine va_iald hx hb hK hP 5 0 rfl rfl (vp_in_iff.mpr ⟨by omega, by omega⟩) dX4_line_170 ?_
                refine lv_topi (fun v_42 ev_42 => ?_)
                refine va_iast hx hb hK hP hD hS 9 0 rfl rfl (vp_in_iff.mpr ⟨by omega, by omega⟩) dX4_line_171 (fun H locs hP hD hS => ?_)
                obtain ⟨f_43, ef_43⟩ : ∃ g : Nat → Int32, upd f_38 (v_39 : Int32).toNatClampNeg v_42 = g := ⟨_, rfl⟩
                rw [ef_43] at hP hD
                have hP : va_P D vwCl [(h0, .inr (4, [.int rp1_1, .int rq1_2, .ref ywi, .ref yki, .ref yse, .ref yno, .ref yrh, .ref yrw, .ref yrk, .ref yrt, .int rp1_1, .int rq1_2, .ref ytx, .int yle, .int at1_3, .int fa1_4, .ref yby, .ref ylo, .ref yhi, .int yac, .int ynx, .ref yro, .ref ygl, .int ysn, .ref yso, .ref ysp, .ref ysw, .long ysd, .ref yik, .ref ykp])), (ytx, .inl (cI, 64, .inl Ftx)), (yrh, .inl (cI, 5, .inl Grh_5)), (yrw, .inl (cI, 5, .inl Grw_6)), (yrk, .inl (cI, 5, .inl Grk_7)), (yrt, .inl (cI, 30, .inl Grt_8)), (ywi, .inl (cI, 5, .inl gwi)), (yki, .inl (cI, 5, .inl gki)), (yse, .inl (cI, 7, .inl gse)), (yno, .inl (cI, 96, .inl f_43)), (yik, .inl (cZ, 2, .inl Fik))] H := hP
                have hD : va_D A [(h0, .inr (4, [.int rp1_1, .int rq1_2, .ref ywi, .ref yki, .ref yse, .ref yno, .ref yrh, .ref yrw, .ref yrk, .ref yrt, .int rp1_1, .int rq1_2, .ref ytx, .int yle, .int at1_3, .int fa1_4, .ref yby, .ref ylo, .ref yhi, .int yac, .int ynx, .ref yro, .ref ygl, .int ysn, .ref yso, .ref ysp, .ref ysw, .long ysd, .ref yik, .ref ykp])), (ytx, .inl (cI, 64, .inl Ftx)), (yrh, .inl (cI, 5, .inl Grh_5)), (yrw, .inl (cI, 5, .inl Grw_6)), (yrk, .inl (cI, 5, .inl Grk_7)), (yrt, .inl (cI, 30, .inl Grt_8)), (ywi, .inl (cI, 5, .inl gwi)), (yki, .inl (cI, 5, .inl gki)), (yse, .inl (cI, 7, .inl gse)), (yno, .inl (cI, 96, .inl f_43)), (yik, .inl (cZ, 2, .inl Fik))] := hD
                refine lv_aload_n hx hb dX4_line_172 rfl (lv_at hl 1 rfl) ?_
                refine va_get (D := D) (ci := 4) (v := .ref yno) (C := RX4) (T := TX4) (N := 30) hx hb hts iX4 hown hK hP 0 rfl rfl 5 (by decide) (hts (.fieldLink RX4 19 "PunchedTicketModel" "now" "[I") (List.mem_of_getElem? (i := 5) rfl)) (fun _ h9 => h9) rfl dX4_line_173 ?_
                refine lv_iload_n hx hb dX4_line_176 rfl (lv_at hl 0 rfl) ?_
                refine lv_iconst (v := 4) hx hb dX4_line_177 (by decide) ?_
                refine lv_iadd hx hb dX4_line_178 ?_
                refine lv_topi (fun v_44 ev_44 => ?_)
                have tv_44 : v_44.toInt = v_25.toInt + (4 : Int) := by rw [ev_44]; exact ti_add (x := v_25) (y := 4) (show -2147483648 ≤ v_25.toInt + (4 : Int) by omega) (show v_25.toInt + (4 : Int) < 2147483648 by omega)
                refine lv_iconst (v := 0) hx hb dX4_line_179 (by decide) ?_
                refine va_iast hx hb hK hP hD hS 9 0 rfl rfl (vp_in_iff.mpr ⟨by omega, by omega⟩) dX4_line_180 (fun H locs hP hD hS => ?_)
                obtain ⟨f_45, ef_45⟩ : ∃ g : Nat → Int32, upd f_43 (v_44 : Int32).toNatClampNeg 0 = g := ⟨_, rfl⟩
                rw [ef_45] at hP hD
                have hP : va_P D vwCl [(h0, .inr (4, [.int rp1_1, .int rq1_2, .ref ywi, .ref yki, .ref yse, .ref yno, .ref yrh, .ref yrw, .ref yrk, .ref yrt, .int rp1_1, .int rq1_2, .ref ytx, .int yle, .int at1_3, .int fa1_4, .ref yby, .ref ylo, .ref yhi, .int yac, .int ynx, .ref yro, .ref ygl, .int ysn, .ref yso, .ref ysp, .ref ysw, .long ysd, .ref yik, .ref ykp])), (ytx, .inl (cI, 64, .inl Ftx)), (yrh, .inl (cI, 5, .inl Grh_5)), (yrw, .inl (cI, 5, .inl Grw_6)), (yrk, .inl (cI, 5, .inl Grk_7)), (yrt, .inl (cI, 30, .inl Grt_8)), (ywi, .inl (cI, 5, .inl gwi)), (yki, .inl (cI, 5, .inl gki)), (yse, .inl (cI, 7, .inl gse)), (yno, .inl (cI, 96, .inl f_45)), (yik, .inl (cZ, 2, .inl Fik))] H := hP
                have hD : va_D A [(h0, .inr (4, [.int rp1_1, .int rq1_2, .ref ywi, .ref yki, .ref yse, .ref yno, .ref yrh, .ref yrw, .ref yrk, .ref yrt, .int rp1_1, .int rq1_2, .ref ytx, .int yle, .int at1_3, .int fa1_4, .ref yby, .ref ylo, .ref yhi, .int yac, .int ynx, .ref yro, .ref ygl, .int ysn, .ref yso, .ref ysp, .ref ysw, .long ysd, .ref yik, .ref ykp])), (ytx, .inl (cI, 64, .inl Ftx)), (yrh, .inl (cI, 5, .inl Grh_5)), (yrw, .inl (cI, 5, .inl Grw_6)), (yrk, .inl (cI, 5, .inl Grk_7)), (yrt, .inl (cI, 30, .inl Grt_8)), (ywi, .inl (cI, 5, .inl gwi)), (yki, .inl (cI, 5, .inl gki)), (yse, .inl (cI, 7, .inl gse)), (yno, .inl (cI, 96, .inl f_45)), (yik, .inl (cZ, 2, .inl Fik))] := hD
                refine lv_aload_n hx hb dX4_line_181 rfl (lv_at hl 1 rfl) ?_
                refine va_get (D := D) (ci := 4) (v := .ref yno) (C := RX4) (T := TX4) (N := 30) hx hb hts iX4 hown hK hP 0 rfl rfl 5 (by decide) (hts (.fieldLink RX4 19 "PunchedTicketModel" "now" "[I") (List.mem_of_getElem? (i := 5) rfl)) (fun _ h9 => h9) rfl dX4_line_182 ?_
                refine lv_iload_n hx hb dX4_line_185 rfl (lv_at hl 0 rfl) ?_
                refine lv_iconst (v := 5) hx hb dX4_line_186 (by decide) ?_
                refine lv_iadd hx hb dX4_line_187 ?_
                refine lv_topi (fun v_46 ev_46 => ?_)
                have tv_46 : v_46.toInt = v_25.toInt + (5 : Int) := by rw [ev_46]; exact ti_add (x := v_25) (y := 5) (show -2147483648 ≤ v_25.toInt + (5 : Int) by omega) (show v_25.toInt + (5 : Int) < 2147483648 by omega)
                refine lv_iconst (v := 0) hx hb dX4_line_188 (by decide) ?_
                refine va_iast hx hb hK hP hD hS 9 0 rfl rfl (vp_in_iff.mpr ⟨by omega, by omega⟩) dX4_line_189 (fun H locs hP hD hS => ?_)
                obtain ⟨f_47, ef_47⟩ : ∃ g : Nat → Int32, upd f_45 (v_46 : Int32).toNatClampNeg 0 = g := ⟨_, rfl⟩
                rw [ef_47] at hP hD
                have hP : va_P D vwCl [(h0, .inr (4, [.int rp1_1, .int rq1_2, .ref ywi, .ref yki, .ref yse, .ref yno, .ref yrh, .ref yrw, .ref yrk, .ref yrt, .int rp1_1, .int rq1_2, .ref ytx, .int yle, .int at1_3, .int fa1_4, .ref yby, .ref ylo, .ref yhi, .int yac, .int ynx, .ref yro, .ref ygl, .int ysn, .ref yso, .ref ysp, .ref ysw, .long ysd, .ref yik, .ref ykp])), (ytx, .inl (cI, 64, .inl Ftx)), (yrh, .inl (cI, 5, .inl Grh_5)), (yrw, .inl (cI, 5, .inl Grw_6)), (yrk, .inl (cI, 5, .inl Grk_7)), (yrt, .inl (cI, 30, .inl Grt_8)), (ywi, .inl (cI, 5, .inl gwi)), (yki, .inl (cI, 5, .inl gki)), (yse, .inl (cI, 7, .inl gse)), (yno, .inl (cI, 96, .inl f_47)), (yik, .inl (cZ, 2, .inl Fik))] H := hP
                have hD : va_D A [(h0, .inr (4, [.int rp1_1, .int rq1_2, .ref ywi, .ref yki, .ref yse, .ref yno, .ref yrh, .ref yrw, .ref yrk, .ref yrt, .int rp1_1, .int rq1_2, .ref ytx, .int yle, .int at1_3, .int fa1_4, .ref yby, .ref ylo, .ref yhi, .int yac, .int ynx, .ref yro, .ref ygl, .int ysn, .ref yso, .ref ysp, .ref ysw, .long ysd, .ref yik, .ref ykp])), (ytx, .inl (cI, 64, .inl Ftx)), (yrh, .inl (cI, 5, .inl Grh_5)), (yrw, .inl (cI, 5, .inl Grw_6)), (yrk, .inl (cI, 5, .inl Grk_7)), (yrt, .inl (cI, 30, .inl Grt_8)), (ywi, .inl (cI, 5, .inl gwi)), (yki, .inl (cI, 5, .inl gki)), (yse, .inl (cI, 7, .inl gse)), (yno, .inl (cI, 96, .inl f_47)), (yik, .inl (cZ, 2, .inl Fik))] := hD
                refine lv_aload_n hx hb dX4_line_190 rfl (lv_at hl 1 rfl) ?_
                refine va_get (D := D) (ci := 4) (v := .ref yse) (C := RX4) (T := TX4) (N := 30) hx hb hts iX4 hown hK hP 0 rfl rfl 4 (by decide) (hts (.fieldLink RX4 16 "PunchedTicketModel" "seat" "[I") (List.mem_of_getElem? (i := 12) rfl)) (fun _ h9 => h9) rfl dX4_line_191 ?_
                refine lv_iload_n hx hb dX4_line_194 rfl (lv_at hl 2 rfl) ?_
                refine lv_aload_n hx hb dX4_line_195 rfl (lv_at hl 1 rfl) ?_
                refine va_get (D := D) (ci := 4) (v := .ref yrt) (C := RX4) (T := TX4) (N := 30) hx hb hts iX4 hown hK hP 0 rfl rfl 9 (by decide) (hts (.fieldLink RX4 31 "PunchedTicketModel" "readTicket" "[I") (List.mem_of_getElem? (i := 11) rfl)) (fun _ h9 => h9) rfl dX4_line_196 ?_
                refine lv_iconst (v := 5) hx hb dX4_line_199 (by decide) ?_
                refine lv_iload_n hx hb dX4_line_200 rfl (lv_at hl 2 rfl) ?_
                refine lv_imul hx hb dX4_line_201 ?_
                refine lv_topi (fun v_48 ev_48 => ?_)
                have tv_48 : v_48.toInt = (5 : Int) * z1.toInt := by rw [ev_48]; exact ti_mul (x := 5) (y := z1) (show -2147483648 ≤ (5 : Int) * z1.toInt by omega) (show (5 : Int) * z1.toInt < 2147483648 by omega)
                refine lv_iconst (v := 3) hx hb dX4_line_202 (by decide) ?_
                refine lv_iadd hx hb dX4_line_203 ?_
                refine lv_topi (fun v_49 ev_49 => ?_)
                have tv_49 : v_49.toInt = v_48.toInt + (3 : Int) := by rw [ev_49]; exact ti_add (x := v_48) (y := 3) (show -2147483648 ≤ v_48.toInt + (3 : Int) by omega) (show v_48.toInt + (3 : Int) < 2147483648 by omega)
                refine va_iald hx hb hK hP 5 0 rfl rfl (vp_in_iff.mpr ⟨by omega, by omega⟩) dX4_line_204 ?_
                refine lv_topi (fun v_50 ev_50 => ?_)
                refine va_iast hx hb hK hP hD hS 8 0 rfl rfl (vp_in_iff.mpr ⟨by omega, by omega⟩) dX4_line_205 (fun H locs hP hD hS => ?_)
                obtain ⟨f_51, ef_51⟩ : ∃ g : Nat → Int32, upd gse (z1 : Int32).toNatClampNeg v_50 = g := ⟨_, rfl⟩
                rw [ef_51] at hP hD
                have hP : va_P D vwCl [(h0, .inr (4, [.int rp1_1, .int rq1_2, .ref ywi, .ref yki, .ref yse, .ref yno, .ref yrh, .ref yrw, .ref yrk, .ref yrt, .int rp1_1, .int rq1_2, .ref ytx, .int yle, .int at1_3, .int fa1_4, .ref yby, .ref ylo, .ref yhi, .int yac, .int ynx, .ref yro, .ref ygl, .int ysn, .ref yso, .ref ysp, .ref ysw, .long ysd, .ref yik, .ref ykp])), (ytx, .inl (cI, 64, .inl Ftx)), (yrh, .inl (cI, 5, .inl Grh_5)), (yrw, .inl (cI, 5, .inl Grw_6)), (yrk, .inl (cI, 5, .inl Grk_7)), (yrt, .inl (cI, 30, .inl Grt_8)), (ywi, .inl (cI, 5, .inl gwi)), (yki, .inl (cI, 5, .inl gki)), (yse, .inl (cI, 7, .inl f_51)), (yno, .inl (cI, 96, .inl f_47)), (yik, .inl (cZ, 2, .inl Fik))] H := hP
                have hD : va_D A [(h0, .inr (4, [.int rp1_1, .int rq1_2, .ref ywi, .ref yki, .ref yse, .ref yno, .ref yrh, .ref yrw, .ref yrk, .ref yrt, .int rp1_1, .int rq1_2, .ref ytx, .int yle, .int at1_3, .int fa1_4, .ref yby, .ref ylo, .ref yhi, .int yac, .int ynx, .ref yro, .ref ygl, .int ysn, .ref yso, .ref ysp, .ref ysw, .long ysd, .ref yik, .ref ykp])), (ytx, .inl (cI, 64, .inl Ftx)), (yrh, .inl (cI, 5, .inl Grh_5)), (yrw, .inl (cI, 5, .inl Grw_6)), (yrk, .inl (cI, 5, .inl Grk_7)), (yrt, .inl (cI, 30, .inl Grt_8)), (ywi, .inl (cI, 5, .inl gwi)), (yki, .inl (cI, 5, .inl gki)), (yse, .inl (cI, 7, .inl f_51)), (yno, .inl (cI, 96, .inl f_47)), (yik, .inl (cZ, 2, .inl Fik))] := hD
                obtain ⟨v_52, ev_52⟩ : ∃ z : Int32, z = z1 + 1 := ⟨_, rfl⟩
                have tv_52 : v_52.toInt = z1.toInt + 1 := by rw [ev_52]; exact ti_add (x := z1) (y := 1) (show -2147483648 ≤ z1.toInt + 1 by omega) (show z1.toInt + 1 < 2147483648 by omega)
                refine lv_iinc (v := v_52) (lv' := [(1, .int v_52), (2, .int v_25), (0, .ref h0)]) hx hb dX4_line_206 hl (k := 2) rfl (by rw [ev_52]; rfl) (by decide) rfl (fun ls hl => ?_)
                refine lv_goto (tgt := 88) hx hb dX4_line_209 (by decide) ?_
                exact ih_18 v_52 f_47 f_51 _ _ _ (show (6 - v_52.toInt).toNat < fu_17 by omega) (show 0 ≤ v_52.toInt ∧ v_52.toInt ≤ 6 by omega) hP hD hS (lv_sub hl [2, 0] rfl)
          exact LOOP_17 _ 0 gno Fse _ _ _ (Nat.lt_succ_self _) (by decide) hP hD hS (lv_sub hl [1, 0] rfl)
        · have tc_16 := b_nle (show (5 : Int32).toInt = 5 by decide) rfl c_16
          refine lv_aload_n hx hb dX4_line_42 rfl (lv_at hl 0 rfl) ?_
          refine va_get (D := D) (ci := 4) (v := .ref ywi) (C := RX4) (T := TX4) (N := 30) hx hb hts iX4 hown hK hP 0 rfl rfl 2 (by decide) (hts (.fieldLink RX4 7 "PunchedTicketModel" "wish" "[I") (List.mem_of_getElem? (i := 6) rfl)) (fun _ h9 => h9) rfl dX4_line_43 ?_
          refine lv_iload_n hx hb dX4_line_46 rfl (lv_at hl 1 rfl) ?_
          refine lv_aload_n hx hb dX4_line_47 rfl (lv_at hl 0 rfl) ?_
          refine va_get (D := D) (ci := 4) (v := .ref yrw) (C := RX4) (T := TX4) (N := 30) hx hb hts iX4 hown hK hP 0 rfl rfl 7 (by decide) (hts (.fieldLink RX4 25 "PunchedTicketModel" "readWish" "[I") (List.mem_of_getElem? (i := 7) rfl)) (fun _ h9 => h9) rfl dX4_line_48 ?_
          refine lv_iload_n hx hb dX4_line_51 rfl (lv_at hl 1 rfl) ?_
          refine va_iald hx hb hK hP 3 0 rfl rfl (vp_in_iff.mpr ⟨by omega, by omega⟩) dX4_line_52 ?_
          refine lv_topi (fun v_53 ev_53 => ?_)
          refine va_iast hx hb hK hP hD hS 6 0 rfl rfl (vp_in_iff.mpr ⟨by omega, by omega⟩) dX4_line_53 (fun H locs hP hD hS => ?_)
          obtain ⟨f_54, ef_54⟩ : ∃ g : Nat → Int32, upd gwi (x1 : Int32).toNatClampNeg v_53 = g := ⟨_, rfl⟩
          rw [ef_54] at hP hD
          have hP : va_P D vwCl [(h0, .inr (4, [.int rp1_1, .int rq1_2, .ref ywi, .ref yki, .ref yse, .ref yno, .ref yrh, .ref yrw, .ref yrk, .ref yrt, .int rp1_1, .int rq1_2, .ref ytx, .int yle, .int at1_3, .int fa1_4, .ref yby, .ref ylo, .ref yhi, .int yac, .int ynx, .ref yro, .ref ygl, .int ysn, .ref yso, .ref ysp, .ref ysw, .long ysd, .ref yik, .ref ykp])), (ytx, .inl (cI, 64, .inl Ftx)), (yrh, .inl (cI, 5, .inl Grh_5)), (yrw, .inl (cI, 5, .inl Grw_6)), (yrk, .inl (cI, 5, .inl Grk_7)), (yrt, .inl (cI, 30, .inl Grt_8)), (ywi, .inl (cI, 5, .inl f_54)), (yki, .inl (cI, 5, .inl gki)), (yse, .inl (cI, 7, .inl Fse)), (yno, .inl (cI, 96, .inl gno)), (yik, .inl (cZ, 2, .inl Fik))] H := hP
          have hD : va_D A [(h0, .inr (4, [.int rp1_1, .int rq1_2, .ref ywi, .ref yki, .ref yse, .ref yno, .ref yrh, .ref yrw, .ref yrk, .ref yrt, .int rp1_1, .int rq1_2, .ref ytx, .int yle, .int at1_3, .int fa1_4, .ref yby, .ref ylo, .ref yhi, .int yac, .int ynx, .ref yro, .ref ygl, .int ysn, .ref yso, .ref ysp, .ref ysw, .long ysd, .ref yik, .ref ykp])), (ytx, .inl (cI, 64, .inl Ftx)), (yrh, .inl (cI, 5, .inl Grh_5)), (yrw, .inl (cI, 5, .inl Grw_6)), (yrk, .inl (cI, 5, .inl Grk_7)), (yrt, .inl (cI, 30, .inl Grt_8)), (ywi, .inl (cI, 5, .inl f_54)), (yki, .inl (cI, 5, .inl gki)), (yse, .inl (cI, 7, .inl Fse)), (yno, .inl (cI, 96, .inl gno)), (yik, .inl (cZ, 2, .inl Fik))] := hD
          refine lv_aload_n hx hb dX4_line_54 rfl (lv_at hl 0 rfl) ?_
          refine va_get (D := D) (ci := 4) (v := .ref yki) (C := RX4) (T := TX4) (N := 30) hx hb hts iX4 hown hK hP 0 rfl rfl 3 (by decide) (hts (.fieldLink RX4 13 "PunchedTicketModel" "kind" "[I") (List.mem_of_getElem? (i := 8) rfl)) (fun _ h9 => h9) rfl dX4_line_55 ?_
          refine lv_iload_n hx hb dX4_line_58 rfl (lv_at hl 1 rfl) ?_
          refine lv_aload_n hx hb dX4_line_59 rfl (lv_at hl 0 rfl) ?_
          refine va_get (D := D) (ci := 4) (v := .ref yrk) (C := RX4) (T := TX4) (N := 30) hx hb hts iX4 hown hK hP 0 rfl rfl 8 (by decide) (hts (.fieldLink RX4 28 "PunchedTicketModel" "readKind" "[I") (List.mem_of_getElem? (i := 9) rfl)) (fun _ h9 => h9) rfl dX4_line_60 ?_
          refine lv_iload_n hx hb dX4_line_63 rfl (lv_at hl 1 rfl) ?_
          refine va_iald hx hb hK hP 4 0 rfl rfl (vp_in_iff.mpr ⟨by omega, by omega⟩) dX4_line_64 ?_
          refine lv_topi (fun v_55 ev_55 => ?_)
          refine va_iast hx hb hK hP hD hS 7 0 rfl rfl (vp_in_iff.mpr ⟨by omega, by omega⟩) dX4_line_65 (fun H locs hP hD hS => ?_)
          obtain ⟨f_56, ef_56⟩ : ∃ g : Nat → Int32, upd gki (x1 : Int32).toNatClampNeg v_55 = g := ⟨_, rfl⟩
          rw [ef_56] at hP hD
          have hP : va_P D vwCl [(h0, .inr (4, [.int rp1_1, .int rq1_2, .ref ywi, .ref yki, .ref yse, .ref yno, .ref yrh, .ref yrw, .ref yrk, .ref yrt, .int rp1_1, .int rq1_2, .ref ytx, .int yle, .int at1_3, .int fa1_4, .ref yby, .ref ylo, .ref yhi, .int yac, .int ynx, .ref yro, .ref ygl, .int ysn, .ref yso, .ref ysp, .ref ysw, .long ysd, .ref yik, .ref ykp])), (ytx, .inl (cI, 64, .inl Ftx)), (yrh, .inl (cI, 5, .inl Grh_5)), (yrw, .inl (cI, 5, .inl Grw_6)), (yrk, .inl (cI, 5, .inl Grk_7)), (yrt, .inl (cI, 30, .inl Grt_8)), (ywi, .inl (cI, 5, .inl f_54)), (yki, .inl (cI, 5, .inl f_56)), (yse, .inl (cI, 7, .inl Fse)), (yno, .inl (cI, 96, .inl gno)), (yik, .inl (cZ, 2, .inl Fik))] H := hP
          have hD : va_D A [(h0, .inr (4, [.int rp1_1, .int rq1_2, .ref ywi, .ref yki, .ref yse, .ref yno, .ref yrh, .ref yrw, .ref yrk, .ref yrt, .int rp1_1, .int rq1_2, .ref ytx, .int yle, .int at1_3, .int fa1_4, .ref yby, .ref ylo, .ref yhi, .int yac, .int ynx, .ref yro, .ref ygl, .int ysn, .ref yso, .ref ysp, .ref ysw, .long ysd, .ref yik, .ref ykp])), (ytx, .inl (cI, 64, .inl Ftx)), (yrh, .inl (cI, 5, .inl Grh_5)), (yrw, .inl (cI, 5, .inl Grw_6)), (yrk, .inl (cI, 5, .inl Grk_7)), (yrt, .inl (cI, 30, .inl Grt_8)), (ywi, .inl (cI, 5, .inl f_54)), (yki, .inl (cI, 5, .inl f_56)), (yse, .inl (cI, 7, .inl Fse)), (yno, .inl (cI, 96, .inl gno)), (yik, .inl (cZ, 2, .inl Fik))] := hD
          refine lv_aload_n hx hb dX4_line_66 rfl (lv_at hl 0 rfl) ?_
          refine va_get (D := D) (ci := 4) (v := .ref yno) (C := RX4) (T := TX4) (N := 30) hx hb hts iX4 hown hK hP 0 rfl rfl 5 (by decide) (hts (.fieldLink RX4 19 "PunchedTicketModel" "now" "[I") (List.mem_of_getElem? (i := 5) rfl)) (fun _ h9 => h9) rfl dX4_line_67 ?_
          refine lv_iconst (v := 1) hx hb dX4_line_70 (by decide) ?_
          refine lv_iload_n hx hb dX4_line_71 rfl (lv_at hl 1 rfl) ?_
          refine lv_iadd hx hb dX4_line_72 ?_
          refine lv_topi (fun v_57 ev_57 => ?_)
          have tv_57 : v_57.toInt = (1 : Int) + x1.toInt := by rw [ev_57]; exact ti_add (x := 1) (y := x1) (show -2147483648 ≤ (1 : Int) + x1.toInt by omega) (show (1 : Int) + x1.toInt < 2147483648 by omega)
          refine lv_aload_n hx hb dX4_line_73 rfl (lv_at hl 0 rfl) ?_
          refine va_get (D := D) (ci := 4) (v := .ref yrh) (C := RX4) (T := TX4) (N := 30) hx hb hts iX4 hown hK hP 0 rfl rfl 6 (by decide) (hts (.fieldLink RX4 22 "PunchedTicketModel" "readHome" "[I") (List.mem_of_getElem? (i := 10) rfl)) (fun _ h9 => h9) rfl dX4_line_74 ?_
          refine lv_iload_n hx hb dX4_line_77 rfl (lv_at hl 1 rfl) ?_
          refine va_iald hx hb hK hP 2 0 rfl rfl (vp_in_iff.mpr ⟨by omega, by omega⟩) dX4_line_78 ?_
          refine lv_topi (fun v_58 ev_58 => ?_)
          refine va_iast hx hb hK hP hD hS 9 0 rfl rfl (vp_in_iff.mpr ⟨by omega, by omega⟩) dX4_line_79 (fun H locs hP hD hS => ?_)
          obtain ⟨f_59, ef_59⟩ : ∃ g : Nat → Int32, upd gno (v_57 : Int32).toNatClampNeg v_58 = g := ⟨_, rfl⟩
          rw [ef_59] at hP hD
          have hP : va_P D vwCl [(h0, .inr (4, [.int rp1_1, .int rq1_2, .ref ywi, .ref yki, .ref yse, .ref yno, .ref yrh, .ref yrw, .ref yrk, .ref yrt, .int rp1_1, .int rq1_2, .ref ytx, .int yle, .int at1_3, .int fa1_4, .ref yby, .ref ylo, .ref yhi, .int yac, .int ynx, .ref yro, .ref ygl, .int ysn, .ref yso, .ref ysp, .ref ysw, .long ysd, .ref yik, .ref ykp])), (ytx, .inl (cI, 64, .inl Ftx)), (yrh, .inl (cI, 5, .inl Grh_5)), (yrw, .inl (cI, 5, .inl Grw_6)), (yrk, .inl (cI, 5, .inl Grk_7)), (yrt, .inl (cI, 30, .inl Grt_8)), (ywi, .inl (cI, 5, .inl f_54)), (yki, .inl (cI, 5, .inl f_56)), (yse, .inl (cI, 7, .inl Fse)), (yno, .inl (cI, 96, .inl f_59)), (yik, .inl (cZ, 2, .inl Fik))] H := hP
          have hD : va_D A [(h0, .inr (4, [.int rp1_1, .int rq1_2, .ref ywi, .ref yki, .ref yse, .ref yno, .ref yrh, .ref yrw, .ref yrk, .ref yrt, .int rp1_1, .int rq1_2, .ref ytx, .int yle, .int at1_3, .int fa1_4, .ref yby, .ref ylo, .ref yhi, .int yac, .int ynx, .ref yro, .ref ygl, .int ysn, .ref yso, .ref ysp, .ref ysw, .long ysd, .ref yik, .ref ykp])), (ytx, .inl (cI, 64, .inl Ftx)), (yrh, .inl (cI, 5, .inl Grh_5)), (yrw, .inl (cI, 5, .inl Grw_6)), (yrk, .inl (cI, 5, .inl Grk_7)), (yrt, .inl (cI, 30, .inl Grt_8)), (ywi, .inl (cI, 5, .inl f_54)), (yki, .inl (cI, 5, .inl f_56)), (yse, .inl (cI, 7, .inl Fse)), (yno, .inl (cI, 96, .inl f_59)), (yik, .inl (cZ, 2, .inl Fik))] := hD
          obtain ⟨v_60, ev_60⟩ : ∃ z : Int32, z = x1 + 1 := ⟨_, rfl⟩
          have tv_60 : v_60.toInt = x1.toInt + 1 := by rw [ev_60]; exact ti_add (x := x1) (y := 1) (show -2147483648 ≤ x1.toInt + 1 by omega) (show x1.toInt + 1 < 2147483648 by omega)
          refine lv_iinc (v := v_60) (lv' := [(1, .int v_60), (0, .ref h0)]) hx hb dX4_line_80 hl (k := 1) rfl (by rw [ev_60]; rfl) (by decide) rfl (fun ls hl => ?_)
          refine lv_goto (tgt := 37) hx hb dX4_line_83 (by decide) ?_
          exact ih_15 v_60 f_54 f_56 f_59 _ _ _ (show (5 - v_60.toInt).toNat < fu_14 by omega) (show 0 ≤ v_60.toInt ∧ v_60.toInt ≤ 5 by omega) hP hD hS (lv_sub hl [1, 0] rfl)
    exact LOOP_14 _ 0 Fwi Fki f_13 _ _ _ (Nat.lt_succ_self _) (by decide) hP hD hS (lv_sub hl [1, 0] rfl)
  · have tc_12 := b_ne rfl (show ((-9) : Int32).toInt = -9 by decide) c_12
    refine lv_bipush (v := (-3)) hx hb dX4_line_9 (by decide) ?_
    exact ret_i (post := (fun (r : Int32) (u : Int32 × Int32 × Int32 × Int32 × Int32 × Int32 × Int32 × (Nat → Int32) × (Nat → Int32) × (Nat → Int32) × (Nat → Int32) × (Nat → Int32) × (Nat → Int32) × (Nat → Int32) × (Nat → Int32) × (Nat → Int32)) => (0 ≤ u.1.toInt ∧ u.1.toInt ≤ 5) ∧ (0 ≤ u.2.1.toInt ∧ u.2.1.toInt ≤ 6) ∧ (0 ≤ u.2.2.2.2.2.2.1.toInt ∧ u.2.2.2.2.2.2.1.toInt ≤ 14))) (W1 := (fun u => [(h0, .inr (4, [.int u.1, .int u.2.1, .ref ywi, .ref yki, .ref yse, .ref yno, .ref yrh, .ref yrw, .ref yrk, .ref yrt, .int u.2.2.1, .int u.2.2.2.1, .ref ytx, .int yle, .int u.2.2.2.2.1, .int u.2.2.2.2.2.1, .ref yby, .ref ylo, .ref yhi, .int u.2.2.2.2.2.2.1, .int ynx, .ref yro, .ref ygl, .int ysn, .ref yso, .ref ysp, .ref ysw, .long ysd, .ref yik, .ref ykp])), (ytx, .inl (cI, 64, .inl Ftx)), (yrh, .inl (cI, 5, .inl u.2.2.2.2.2.2.2.1)), (yrw, .inl (cI, 5, .inl u.2.2.2.2.2.2.2.2.1)), (yrk, .inl (cI, 5, .inl u.2.2.2.2.2.2.2.2.2.1)), (yrt, .inl (cI, 30, .inl u.2.2.2.2.2.2.2.2.2.2.1)), (ywi, .inl (cI, 5, .inl u.2.2.2.2.2.2.2.2.2.2.2.1)), (yki, .inl (cI, 5, .inl u.2.2.2.2.2.2.2.2.2.2.2.2.1)), (yse, .inl (cI, 7, .inl u.2.2.2.2.2.2.2.2.2.2.2.2.2.1)), (yno, .inl (cI, 96, .inl u.2.2.2.2.2.2.2.2.2.2.2.2.2.2.1)), (yik, .inl (cZ, 2, .inl u.2.2.2.2.2.2.2.2.2.2.2.2.2.2.2))])) (ype, ytk, rp1_1, rq1_2, at1_3, fa1_4, yac, Grh_5, Grw_6, Grk_7, Grt_8, Fwi, Fki, Fse, Fno, Fik) hx hb hr hlocks rfl hQ hK hP hD hS ⟨by decide, by decide⟩ dX4_line_11 (show (0 ≤ ype.toInt ∧ ype.toInt ≤ 5) ∧ (0 ≤ ytk.toInt ∧ ytk.toInt ≤ 6) ∧ (0 ≤ yac.toInt ∧ yac.toInt ≤ 14) by omega)
