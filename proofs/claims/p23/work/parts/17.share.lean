theorem dX4_factorial_0 : decode cX4_factorial 0 = .ok (.iconst 1, 1) := by decide +kernel
theorem dX4_factorial_1 : decode cX4_factorial 1 = .ok (.istore_n 1, 1) := by decide +kernel
theorem dX4_factorial_2 : decode cX4_factorial 2 = .ok (.iconst 2, 1) := by decide +kernel
theorem dX4_factorial_3 : decode cX4_factorial 3 = .ok (.istore_n 2, 1) := by decide +kernel
theorem dX4_factorial_4 : decode cX4_factorial 4 = .ok (.iload_n 2, 1) := by decide +kernel
theorem dX4_factorial_5 : decode cX4_factorial 5 = .ok (.iload_n 0, 1) := by decide +kernel
theorem dX4_factorial_6 : decode cX4_factorial 6 = .ok (.if_icmp .gt 13, 3) := by decide +kernel
theorem dX4_factorial_9 : decode cX4_factorial 9 = .ok (.iload_n 1, 1) := by decide +kernel
theorem dX4_factorial_10 : decode cX4_factorial 10 = .ok (.iload_n 2, 1) := by decide +kernel
theorem dX4_factorial_11 : decode cX4_factorial 11 = .ok (.imul, 1) := by decide +kernel
theorem dX4_factorial_12 : decode cX4_factorial 12 = .ok (.istore_n 1, 1) := by decide +kernel
theorem dX4_factorial_13 : decode cX4_factorial 13 = .ok (.iinc 2 1, 3) := by decide +kernel
theorem dX4_factorial_16 : decode cX4_factorial 16 = .ok (.goto (-12), 3) := by decide +kernel
theorem dX4_factorial_19 : decode cX4_factorial 19 = .ok (.iload_n 1, 1) := by decide +kernel
theorem dX4_factorial_20 : decode cX4_factorial 20 = .ok (.ireturn, 1) := by decide +kernel
theorem dX4_common_0 : decode cX4_common 0 = .ok (.iload_n 0, 1) := by decide +kernel
theorem dX4_common_1 : decode cX4_common 1 = .ok (.ifCond .ge 8, 3) := by decide +kernel
theorem dX4_common_4 : decode cX4_common 4 = .ok (.iload_n 0, 1) := by decide +kernel
theorem dX4_common_5 : decode cX4_common 5 = .ok (.ineg, 1) := by decide +kernel
theorem dX4_common_6 : decode cX4_common 6 = .ok (.goto 4, 3) := by decide +kernel
theorem dX4_common_9 : decode cX4_common 9 = .ok (.iload_n 0, 1) := by decide +kernel
theorem dX4_common_10 : decode cX4_common 10 = .ok (.istore_n 2, 1) := by decide +kernel
theorem dX4_common_11 : decode cX4_common 11 = .ok (.iload_n 1, 1) := by decide +kernel
theorem dX4_common_12 : decode cX4_common 12 = .ok (.istore_n 3, 1) := by decide +kernel
theorem dX4_common_13 : decode cX4_common 13 = .ok (.iload_n 3, 1) := by decide +kernel
theorem dX4_common_14 : decode cX4_common 14 = .ok (.ifCond .eq 16, 3) := by decide +kernel
theorem dX4_common_17 : decode cX4_common 17 = .ok (.iload_n 2, 1) := by decide +kernel
theorem dX4_common_18 : decode cX4_common 18 = .ok (.iload_n 3, 1) := by decide +kernel
theorem dX4_common_19 : decode cX4_common 19 = .ok (.irem, 1) := by decide +kernel
theorem dX4_common_20 : decode cX4_common 20 = .ok (.istore 4, 2) := by decide +kernel
theorem dX4_common_22 : decode cX4_common 22 = .ok (.iload_n 3, 1) := by decide +kernel
theorem dX4_common_23 : decode cX4_common 23 = .ok (.istore_n 2, 1) := by decide +kernel
theorem dX4_common_24 : decode cX4_common 24 = .ok (.iload 4, 2) := by decide +kernel
theorem dX4_common_26 : decode cX4_common 26 = .ok (.istore_n 3, 1) := by decide +kernel
theorem dX4_common_27 : decode cX4_common 27 = .ok (.goto (-14), 3) := by decide +kernel
theorem dX4_common_30 : decode cX4_common 30 = .ok (.iload_n 2, 1) := by decide +kernel
theorem dX4_common_31 : decode cX4_common 31 = .ok (.ireturn, 1) := by decide +kernel
set_option maxRecDepth 20000 in
theorem ggX4_share_X4_isTicket : GoodIn wsX4_share wsX4_isTicket := goodIn_r _ [7, 1, 8, 9, 6, 10, 70, 71, 72, 73, 74, 75, 76, 77, 78, 79, 80, 81, 82, 83, 84, 85, 86, 87, 88, 89, 90, 91, 92, 93, 94, 95, 96, 97, 98, 99] rfl (by decide +kernel)
set_option maxRecDepth 20000 in
theorem gX4_share_X4_isTicket : GoodIn wsX4_share (wsV RX4 122 RX4 yX4_isTicket wsX4_isTicket) := goodIn_app (goodIn_r _ [3, 4, 5, 6] rfl (by decide +kernel)) ggX4_share_X4_isTicket
set_option maxRecDepth 20000 in
theorem ggX4_share_X4_isGone : GoodIn wsX4_share wsX4_isGone := goodIn_r _ [14, 15, 70, 71, 72, 73, 74, 75, 76, 77, 78, 79, 80, 81, 82, 83, 84, 85, 86, 87, 88, 89, 90, 91, 92, 93, 94, 95, 96, 97, 98, 99] rfl (by decide +kernel)
set_option maxRecDepth 20000 in
theorem gX4_share_X4_isGone : GoodIn wsX4_share (wsV RX4 107 RX4 yX4_isGone wsX4_isGone) := goodIn_app (goodIn_r _ [11, 12, 13, 6] rfl (by decide +kernel)) ggX4_share_X4_isGone
set_option maxRecDepth 20000 in
theorem ggX4_share_X4_goneNow : GoodIn wsX4_share wsX4_goneNow := goodIn_r _ [19, 1, 11, 12, 13, 6, 14, 15, 70, 71, 72, 73, 74, 75, 76, 77, 78, 79, 80, 81, 82, 83, 84, 85, 86, 87, 88, 89, 90, 91, 92, 93, 94, 95, 96, 97, 98, 99] rfl (by decide +kernel)
set_option maxRecDepth 20000 in
theorem gX4_share_X4_goneNow : GoodIn wsX4_share (wsV RX4 185 RX4 yX4_goneNow wsX4_goneNow) := goodIn_app (goodIn_r _ [16, 17, 18, 6] rfl (by decide +kernel)) ggX4_share_X4_goneNow
set_option maxRecDepth 20000 in
theorem ggX4_share_X4_ones : GoodIn wsX4_share wsX4_ones := goodIn_r _ [22] rfl (by decide +kernel)
set_option maxRecDepth 20000 in
theorem gX4_share_X4_ones : GoodIn wsX4_share (va_wsS RX4 152 yX4_ones wsX4_ones) := goodIn_app (goodIn_of _ (by decide +kernel)) ggX4_share_X4_ones
set_option maxRecDepth 20000 in
theorem ggX4_share_X4_gladWithout : GoodIn wsX4_share wsX4_gladWithout := goodIn_r _ [26, 1, 27, 28, 29, 6, 30, 15, 31, 32, 33, 34, 35, 36, 37, 38, 39, 40, 41, 42, 43, 44, 45, 46, 47, 48, 49, 50, 51, 52, 53, 54, 55, 20, 21, 22, 56, 57, 58, 59, 60, 70, 71, 72, 73, 74, 75, 76, 77, 78, 79, 80, 81, 82, 83, 84, 85, 86, 87, 88, 89, 90, 91, 92, 93, 94, 95, 96, 97, 98, 99] rfl (by decide +kernel)
set_option maxRecDepth 20000 in
theorem gX4_share_X4_gladWithout : GoodIn wsX4_share (wsV RX4 179 RX4 yX4_gladWithout wsX4_gladWithout) := goodIn_app (goodIn_r _ [23, 24, 25, 6] rfl (by decide +kernel)) ggX4_share_X4_gladWithout
set_option maxRecDepth 20000 in
theorem ggX4_share_X4_has : GoodIn wsX4_share wsX4_has := goodIn_r _ [63] rfl (by decide +kernel)
set_option maxRecDepth 20000 in
theorem gX4_share_X4_has : GoodIn wsX4_share (va_wsS RX4 129 yX4_has wsX4_has) := goodIn_app (goodIn_of _ (by decide +kernel)) ggX4_share_X4_has
set_option maxRecDepth 20000 in
theorem ggX4_share_X4_factorial : GoodIn wsX4_share wsX4_factorial := goodIn_r _ [66] rfl (by decide +kernel)
set_option maxRecDepth 20000 in
theorem gX4_share_X4_factorial : GoodIn wsX4_share (va_wsS RX4 188 yX4_factorial wsX4_factorial) := goodIn_app (goodIn_of _ (by decide +kernel)) ggX4_share_X4_factorial
set_option maxRecDepth 20000 in
theorem ggX4_share_X4_common : GoodIn wsX4_share wsX4_common := goodIn_r _ [69] rfl (by decide +kernel)
set_option maxRecDepth 20000 in
theorem gX4_share_X4_common : GoodIn wsX4_share (va_wsS RX4 191 yX4_common wsX4_common) := goodIn_app (goodIn_of _ (by decide +kernel)) ggX4_share_X4_common
theorem dX4_share_0 : decode cX4_share 0 = .ok (.aload_n 0, 1) := by decide +kernel
theorem dX4_share_1 : decode cX4_share 1 = .ok (.iload_n 1, 1) := by decide +kernel
theorem dX4_share_2 : decode cX4_share 2 = .ok (.invokevirtual 122, 3) := by decide +kernel
theorem dX4_share_5 : decode cX4_share 5 = .ok (.ifCond .ne 5, 3) := by decide +kernel
theorem dX4_share_8 : decode cX4_share 8 = .ok (.iconst (-1), 1) := by decide +kernel
theorem dX4_share_9 : decode cX4_share 9 = .ok (.ireturn, 1) := by decide +kernel
theorem dX4_share_10 : decode cX4_share 10 = .ok (.aload_n 0, 1) := by decide +kernel
theorem dX4_share_11 : decode cX4_share 11 = .ok (.iload_n 1, 1) := by decide +kernel
theorem dX4_share_12 : decode cX4_share 12 = .ok (.invokevirtual 107, 3) := by decide +kernel
theorem dX4_share_15 : decode cX4_share 15 = .ok (.ifCond .eq 13, 3) := by decide +kernel
theorem dX4_share_18 : decode cX4_share 18 = .ok (.iload_n 2, 1) := by decide +kernel
theorem dX4_share_19 : decode cX4_share 19 = .ok (.ifCond .eq 7, 3) := by decide +kernel
theorem dX4_share_22 : decode cX4_share 22 = .ok (.iconst 0, 1) := by decide +kernel
theorem dX4_share_23 : decode cX4_share 23 = .ok (.goto 4, 3) := by decide +kernel
theorem dX4_share_26 : decode cX4_share 26 = .ok (.iconst 1, 1) := by decide +kernel
theorem dX4_share_27 : decode cX4_share 27 = .ok (.ireturn, 1) := by decide +kernel
theorem dX4_share_28 : decode cX4_share 28 = .ok (.iconst 1, 1) := by decide +kernel
theorem dX4_share_29 : decode cX4_share 29 = .ok (.aload_n 0, 1) := by decide +kernel
theorem dX4_share_30 : decode cX4_share 30 = .ok (.getfield 101, 3) := by decide +kernel
theorem dX4_share_33 : decode cX4_share 33 = .ok (.ishl, 1) := by decide +kernel
theorem dX4_share_34 : decode cX4_share 34 = .ok (.iconst 1, 1) := by decide +kernel
theorem dX4_share_35 : decode cX4_share 35 = .ok (.isub, 1) := by decide +kernel
theorem dX4_share_36 : decode cX4_share 36 = .ok (.aload_n 0, 1) := by decide +kernel
theorem dX4_share_37 : decode cX4_share 37 = .ok (.invokevirtual 185, 3) := by decide +kernel
theorem dX4_share_40 : decode cX4_share 40 = .ok (.iconst (-1), 1) := by decide +kernel
theorem dX4_share_41 : decode cX4_share 41 = .ok (.ixor, 1) := by decide +kernel
theorem dX4_share_42 : decode cX4_share 42 = .ok (.iand, 1) := by decide +kernel
theorem dX4_share_43 : decode cX4_share 43 = .ok (.istore_n 3, 1) := by decide +kernel
theorem dX4_share_44 : decode cX4_share 44 = .ok (.iload_n 3, 1) := by decide +kernel
theorem dX4_share_45 : decode cX4_share 45 = .ok (.invokestatic 152, 3) := by decide +kernel
theorem dX4_share_48 : decode cX4_share 48 = .ok (.istore 4, 2) := by decide +kernel
theorem dX4_share_50 : decode cX4_share 50 = .ok (.iconst 0, 1) := by decide +kernel
theorem dX4_share_51 : decode cX4_share 51 = .ok (.istore 5, 2) := by decide +kernel
theorem dX4_share_53 : decode cX4_share 53 = .ok (.iconst 0, 1) := by decide +kernel
theorem dX4_share_54 : decode cX4_share 54 = .ok (.istore 6, 2) := by decide +kernel
theorem dX4_share_56 : decode cX4_share 56 = .ok (.iload 6, 2) := by decide +kernel
theorem dX4_share_58 : decode cX4_share 58 = .ok (.iload_n 3, 1) := by decide +kernel
theorem dX4_share_59 : decode cX4_share 59 = .ok (.if_icmp .gt 39, 3) := by decide +kernel
theorem dX4_share_62 : decode cX4_share 62 = .ok (.aload_n 0, 1) := by decide +kernel
theorem dX4_share_63 : decode cX4_share 63 = .ok (.getfield 49, 3) := by decide +kernel
theorem dX4_share_66 : decode cX4_share 66 = .ok (.iload 6, 2) := by decide +kernel
theorem dX4_share_68 : decode cX4_share 68 = .ok (.iload 6, 2) := by decide +kernel
theorem dX4_share_70 : decode cX4_share 70 = .ok (.iload_n 3, 1) := by decide +kernel
theorem dX4_share_71 : decode cX4_share 71 = .ok (.iconst (-1), 1) := by decide +kernel
theorem dX4_share_72 : decode cX4_share 72 = .ok (.ixor, 1) := by decide +kernel
theorem dX4_share_73 : decode cX4_share 73 = .ok (.iand, 1) := by decide +kernel
theorem dX4_share_74 : decode cX4_share 74 = .ok (.ifCond .ne 16, 3) := by decide +kernel
theorem dX4_share_77 : decode cX4_share 77 = .ok (.aload_n 0, 1) := by decide +kernel
theorem dX4_share_78 : decode cX4_share 78 = .ok (.iload_n 3, 1) := by decide +kernel
theorem dX4_share_79 : decode cX4_share 79 = .ok (.iload 6, 2) := by decide +kernel
theorem dX4_share_81 : decode cX4_share 81 = .ok (.iconst (-1), 1) := by decide +kernel
theorem dX4_share_82 : decode cX4_share 82 = .ok (.ixor, 1) := by decide +kernel
theorem dX4_share_83 : decode cX4_share 83 = .ok (.iand, 1) := by decide +kernel
theorem dX4_share_84 : decode cX4_share 84 = .ok (.invokevirtual 179, 3) := by decide +kernel
theorem dX4_share_87 : decode cX4_share 87 = .ok (.goto 4, 3) := by decide +kernel
theorem dX4_share_90 : decode cX4_share 90 = .ok (.iconst 0, 1) := by decide +kernel
theorem dX4_share_91 : decode cX4_share 91 = .ok (.iastore, 1) := by decide +kernel
theorem dX4_share_92 : decode cX4_share 92 = .ok (.iinc 6 1, 3) := by decide +kernel
theorem dX4_share_95 : decode cX4_share 95 = .ok (.goto (-39), 3) := by decide +kernel
theorem dX4_share_98 : decode cX4_share 98 = .ok (.iconst 0, 1) := by decide +kernel
theorem dX4_share_99 : decode cX4_share 99 = .ok (.istore 6, 2) := by decide +kernel
theorem dX4_share_101 : decode cX4_share 101 = .ok (.iload 6, 2) := by decide +kernel
theorem dX4_share_103 : decode cX4_share 103 = .ok (.iload_n 3, 1) := by decide +kernel
theorem dX4_share_104 : decode cX4_share 104 = .ok (.if_icmp .gt 78, 3) := by decide +kernel
theorem dX4_share_107 : decode cX4_share 107 = .ok (.iload 6, 2) := by decide +kernel
theorem dX4_share_109 : decode cX4_share 109 = .ok (.iload_n 3, 1) := by decide +kernel
theorem dX4_share_110 : decode cX4_share 110 = .ok (.iconst (-1), 1) := by decide +kernel
theorem dX4_share_111 : decode cX4_share 111 = .ok (.ixor, 1) := by decide +kernel
theorem dX4_share_112 : decode cX4_share 112 = .ok (.iand, 1) := by decide +kernel
theorem dX4_share_113 : decode cX4_share 113 = .ok (.ifCond .ne 63, 3) := by decide +kernel
theorem dX4_share_116 : decode cX4_share 116 = .ok (.iload 6, 2) := by decide +kernel
theorem dX4_share_118 : decode cX4_share 118 = .ok (.iload_n 1, 1) := by decide +kernel
theorem dX4_share_119 : decode cX4_share 119 = .ok (.invokestatic 129, 3) := by decide +kernel
theorem dX4_share_122 : decode cX4_share 122 = .ok (.ifCond .ne 54, 3) := by decide +kernel
theorem dX4_share_125 : decode cX4_share 125 = .ok (.iload 6, 2) := by decide +kernel
theorem dX4_share_127 : decode cX4_share 127 = .ok (.invokestatic 152, 3) := by decide +kernel
theorem dX4_share_130 : decode cX4_share 130 = .ok (.invokestatic 188, 3) := by decide +kernel
theorem dX4_share_133 : decode cX4_share 133 = .ok (.iload 4, 2) := by decide +kernel
theorem dX4_share_135 : decode cX4_share 135 = .ok (.iconst 1, 1) := by decide +kernel
theorem dX4_share_136 : decode cX4_share 136 = .ok (.isub, 1) := by decide +kernel
theorem dX4_share_137 : decode cX4_share 137 = .ok (.iload 6, 2) := by decide +kernel
theorem dX4_share_139 : decode cX4_share 139 = .ok (.invokestatic 152, 3) := by decide +kernel
theorem dX4_share_142 : decode cX4_share 142 = .ok (.isub, 1) := by decide +kernel
theorem dX4_share_143 : decode cX4_share 143 = .ok (.invokestatic 188, 3) := by decide +kernel
theorem dX4_share_146 : decode cX4_share 146 = .ok (.imul, 1) := by decide +kernel
theorem dX4_share_147 : decode cX4_share 147 = .ok (.istore 7, 2) := by decide +kernel
theorem dX4_share_149 : decode cX4_share 149 = .ok (.iload 5, 2) := by decide +kernel
theorem dX4_share_151 : decode cX4_share 151 = .ok (.iload 7, 2) := by decide +kernel
theorem dX4_share_153 : decode cX4_share 153 = .ok (.aload_n 0, 1) := by decide +kernel
theorem dX4_share_154 : decode cX4_share 154 = .ok (.getfield 49, 3) := by decide +kernel
theorem dX4_share_157 : decode cX4_share 157 = .ok (.iload 6, 2) := by decide +kernel
theorem dX4_share_159 : decode cX4_share 159 = .ok (.iconst 1, 1) := by decide +kernel
theorem dX4_share_160 : decode cX4_share 160 = .ok (.iload_n 1, 1) := by decide +kernel
theorem dX4_share_161 : decode cX4_share 161 = .ok (.ishl, 1) := by decide +kernel
theorem dX4_share_162 : decode cX4_share 162 = .ok (.ior, 1) := by decide +kernel
theorem dX4_share_163 : decode cX4_share 163 = .ok (.iaload, 1) := by decide +kernel
theorem dX4_share_164 : decode cX4_share 164 = .ok (.aload_n 0, 1) := by decide +kernel
theorem dX4_share_165 : decode cX4_share 165 = .ok (.getfield 49, 3) := by decide +kernel
theorem dX4_share_168 : decode cX4_share 168 = .ok (.iload 6, 2) := by decide +kernel
theorem dX4_share_170 : decode cX4_share 170 = .ok (.iaload, 1) := by decide +kernel
theorem dX4_share_171 : decode cX4_share 171 = .ok (.isub, 1) := by decide +kernel
theorem dX4_share_172 : decode cX4_share 172 = .ok (.imul, 1) := by decide +kernel
theorem dX4_share_173 : decode cX4_share 173 = .ok (.iadd, 1) := by decide +kernel
theorem dX4_share_174 : decode cX4_share 174 = .ok (.istore 5, 2) := by decide +kernel
theorem dX4_share_176 : decode cX4_share 176 = .ok (.iinc 6 1, 3) := by decide +kernel
theorem dX4_share_179 : decode cX4_share 179 = .ok (.goto (-78), 3) := by decide +kernel
theorem dX4_share_182 : decode cX4_share 182 = .ok (.iload 5, 2) := by decide +kernel
theorem dX4_share_184 : decode cX4_share 184 = .ok (.iload 4, 2) := by decide +kernel
theorem dX4_share_186 : decode cX4_share 186 = .ok (.invokestatic 188, 3) := by decide +kernel
theorem dX4_share_189 : decode cX4_share 189 = .ok (.invokestatic 191, 3) := by decide +kernel
theorem dX4_share_192 : decode cX4_share 192 = .ok (.istore 6, 2) := by decide +kernel
theorem dX4_share_194 : decode cX4_share 194 = .ok (.iload_n 2, 1) := by decide +kernel
theorem dX4_share_195 : decode cX4_share 195 = .ok (.ifCond .eq 11, 3) := by decide +kernel
theorem dX4_share_198 : decode cX4_share 198 = .ok (.iload 5, 2) := by decide +kernel
theorem dX4_share_200 : decode cX4_share 200 = .ok (.iload 6, 2) := by decide +kernel
theorem dX4_share_202 : decode cX4_share 202 = .ok (.idiv, 1) := by decide +kernel
theorem dX4_share_203 : decode cX4_share 203 = .ok (.goto 11, 3) := by decide +kernel
theorem dX4_share_206 : decode cX4_share 206 = .ok (.iload 4, 2) := by decide +kernel
theorem dX4_share_208 : decode cX4_share 208 = .ok (.invokestatic 188, 3) := by decide +kernel
theorem dX4_share_211 : decode cX4_share 211 = .ok (.iload 6, 2) := by decide +kernel
theorem dX4_share_213 : decode cX4_share 213 = .ok (.idiv, 1) := by decide +kernel
theorem dX4_share_214 : decode cX4_share 214 = .ok (.ireturn, 1) := by decide +kernel
theorem rem_abs {x y v : Int32} (hy : ¬ y = 0) (e : v = x - x / y * y) : v.toInt.natAbs < y.toInt.natAbs := by
  have hy2 : y.toInt ≠ 0 := fun h => hy (Int32.toInt_inj.mp (h.trans (show (0 : Int) = (0 : Int32).toInt by decide)))
  have hylo : -2147483648 ≤ y.toInt := Int32.le_toInt y
  have hyhi : y.toInt < 2147483648 := Int32.toInt_lt y
  have h1 : v.toInt = (x.toInt - x.toInt.tdiv y.toInt * y.toInt).bmod (2 ^ 32) := by
    rw [e, Int32.toInt_sub, Int32.toInt_mul, Int32.toInt_div]
    simp
  have h2 : x.toInt - x.toInt.tdiv y.toInt * y.toInt = x.toInt.tmod y.toInt := by
    rw [Int.tmod_def, Int.mul_comm]
  have h3 : (x.toInt.tmod y.toInt).natAbs < y.toInt.natAbs := by
    rw [Int.natAbs_tmod]
    exact Nat.mod_lt _ (Int.natAbs_pos.mpr hy2)
  have h4 : v.toInt = x.toInt.tmod y.toInt := by
    rw [h1, h2]
    exact Int.bmod_eq_of_le (by omega) (by omega)
  rw [h4]; exact h3
theorem sh1_bd {k v : Int32} (h0 : 0 ≤ k.toInt) (h6 : k.toInt ≤ 6) (e : v = 1 <<< (k &&& 31)) : 1 ≤ v.toInt ∧ v.toInt ≤ 64 := by
  have hk : k = nI k.toInt.toNat := (nI_back h0).symm
  have key : ∀ j : Nat, j < 7 → 1 ≤ ((1 : Int32) <<< (nI j &&& 31)).toInt ∧ ((1 : Int32) <<< (nI j &&& 31)).toInt ≤ 64 := by decide
  rw [e, hk]
  exact key _ (by omega)
theorem sh1_32 {k v : Int32} (h0 : 0 ≤ k.toInt) (h6 : k.toInt ≤ 5) (e : v = 1 <<< (k &&& 31)) : 1 ≤ v.toInt ∧ v.toInt ≤ 32 := by
  have hk : k = nI k.toInt.toNat := (nI_back h0).symm
  have key : ∀ j : Nat, j < 6 → 1 ≤ ((1 : Int32) <<< (nI j &&& 31)).toInt ∧ ((1 : Int32) <<< (nI j &&& 31)).toInt ≤ 32 := by decide
  rw [e, hk]
  exact key _ (by omega)
theorem toInt_nat {m : Int32} (h0 : 0 ≤ m.toInt) : m.toInt = (m.toBitVec.toNat : Int) := by
  have h := nI_back h0
  have hlt : m.toInt.toNat < 2 ^ 32 := by
    have := Int32.toInt_lt m
    omega
  have h2 : m.toBitVec.toNat = m.toInt.toNat := by
    have h3 := pk_tn hlt
    rw [h] at h3
    exact h3
  omega
theorem of_nat {v : Int32} {n : Nat} (h : v.toBitVec.toNat = n) (hn : n < 2 ^ 31) : v.toInt = (n : Int) := by
  have h1 : v = nI n := by
    apply Int32.toBitVec_inj.mp
    apply BitVec.eq_of_toNat_eq
    rw [h, pk_tn (by omega)]
  rw [h1]; exact nI_toInt hn
theorem and_bd {m x v : Int32} (h0 : 0 ≤ m.toInt) (e : v = m &&& x) : 0 ≤ v.toInt ∧ v.toInt ≤ m.toInt := by
  have hm := toInt_nat h0
  have hlt := Int32.toInt_lt m
  have hle : (m.toBitVec.toNat &&& x.toBitVec.toNat) ≤ m.toBitVec.toNat := Nat.and_le_left
  have hv : v.toBitVec.toNat = m.toBitVec.toNat &&& x.toBitVec.toNat := by rw [e, Int32.toBitVec_and, BitVec.toNat_and]
  have h2 := of_nat hv (by omega)
  omega
theorem or_63 {x y v : Int32} (hx : 0 ≤ x.toInt) (hx2 : x.toInt ≤ 63) (hy : 0 ≤ y.toInt) (hy2 : y.toInt ≤ 63) (e : v = x ||| y) : 0 ≤ v.toInt ∧ v.toInt ≤ 63 := by
  have h1 := toInt_nat hx
  have h2 := toInt_nat hy
  have hv : v.toBitVec.toNat = x.toBitVec.toNat ||| y.toBitVec.toNat := by rw [e, Int32.toBitVec_or, BitVec.toNat_or]
  have hlt : x.toBitVec.toNat ||| y.toBitVec.toNat < 2 ^ 6 := Nat.or_lt_two_pow (by omega) (by omega)
  have h3 := of_nat hv (by omega)
  omega

set_option maxHeartbeats 600000 in
set_option maxRecDepth 100000 in
theorem c_X4_factorial (l : Launch) (D : va_G) (cI cZ cM : ClassId) (n : Int32) (sz : Nat) (h_n : -100 ≤ n.toInt ∧ n.toInt ≤ 7) : Ci l yX4_factorial wsX4_factorial ({ frames := 0, cells := 0, slots := 0, locals := 0 } : Room) D cI cZ cM [.int n] [] sz (fun (r : Int32) (u : Unit) => 1 ≤ r.toInt ∧ r.toInt ≤ 5040) (fun u => []) 0 0 := by
  refine begins (l := l) (y := yX4_factorial) (ws := wsX4_factorial) (av := [.int n]) (Qc := fun A => va_Qi (fun (r : Int32) (u : Unit) => 1 ≤ r.toInt ∧ r.toInt ≤ 5040) (fun u => Wd D cI cZ cM A ((fun u => []) u)) A) cX4_factorial 3 (some .int) (by decide) rfl (Nat.le_of_ble_eq_true rfl) ?_
  intro p e s m args below meth c R Q A ls hBd hR hQ hA hS hK hP hD hl
  obtain ⟨hx, hb, hr, hts, hown, hlocks, hin, hml⟩ := hBd
  have hl : lv_has ls 3 [(0, .int n)] := hl
  obtain ⟨h_na, h_nb⟩ := h_n
  refine lv_iconst (v := 1) hx hb dX4_factorial_0 (by decide) ?_
  refine lv_istore_n (lv' := [(1, .int 1), (0, .int n)]) hx hb dX4_factorial_1 rfl hl (by decide) rfl (fun ls hl => ?_)
  refine lv_iconst (v := 2) hx hb dX4_factorial_2 (by decide) ?_
  refine lv_istore_n (lv' := [(2, .int 2), (1, .int 1), (0, .int n)]) hx hb dX4_factorial_3 rfl hl (by decide) rfl (fun ls hl => ?_)
  have LOOP_1 : ∀ (fu_1 : Nat) (w1 : Int32) (x2 : Int32) (H : Heap) (locs : List Loc) (ls : Array Slot), (8 - x2.toInt).toNat < fu_1 → (2 ≤ x2.toInt ∧ x2.toInt ≤ 8) → ((x2.toInt = 2 ∧ w1.toInt = 1) ∨ (x2.toInt = 3 ∧ w1.toInt = 2) ∨ (x2.toInt = 4 ∧ w1.toInt = 6) ∨ (x2.toInt = 5 ∧ w1.toInt = 24) ∨ (x2.toInt = 6 ∧ w1.toInt = 120) ∨ (x2.toInt = 7 ∧ w1.toInt = 720) ∨ (x2.toInt = 8 ∧ w1.toInt = 5040)) → va_P D vwCl [] H → va_D A [] → va_S A s.heap H locs → lv_has ls 3 [(0, .int n), (1, .int w1), (2, .int x2)] → W p l e R s m args below meth c H locs 0 0 Q (F0 m 4 ls []) := by
    intro fu_1
    induction fu_1 with
    | zero => intro w1 x2 H locs ls hmu; exact absurd hmu (Nat.not_lt_zero _)
    | succ fu_1 ih =>
      intro w1 x2 H locs ls hmu h_x2 hF hP hD hS hl
      obtain ⟨h_x2a, h_x2b⟩ := h_x2
      have ih_2 := ih
      clear ih
      refine lv_iload_n hx hb dX4_factorial_4 rfl (lv_at hl 2 rfl) ?_
      refine lv_iload_n hx hb dX4_factorial_5 rfl (lv_at hl 0 rfl) ?_
      refine lv_icmp_gt (tgt := 19) hx hb dX4_factorial_6 (by decide) (fun c_3 => ?_) (fun c_3 => ?_)
      · have tc_3 := b_lt rfl rfl c_3
        refine lv_iload_n hx hb dX4_factorial_19 rfl (lv_at hl 1 rfl) ?_
        exact ret_i (post := (fun (r : Int32) (u : Unit) => 1 ≤ r.toInt ∧ r.toInt ≤ 5040)) (W1 := (fun u => [])) () hx hb hr hlocks rfl hQ hK hP hD hS ⟨by decide, by decide⟩ dX4_factorial_20 (by rcases hF with ⟨qa, qb⟩ | ⟨qa, qb⟩ | ⟨qa, qb⟩ | ⟨qa, qb⟩ | ⟨qa, qb⟩ | ⟨qa, qb⟩ | ⟨qa, qb⟩ <;> rw [qb] <;> decide)
      · have tc_3 := b_nlt rfl rfl c_3
        refine lv_iload_n hx hb dX4_factorial_9 rfl (lv_at hl 1 rfl) ?_
        refine lv_iload_n hx hb dX4_factorial_10 rfl (lv_at hl 2 rfl) ?_
        refine lv_imul hx hb dX4_factorial_11 ?_
        refine lv_topi (fun v_4 ev_4 => ?_)
        have tvF : v_4.toInt = w1.toInt * x2.toInt := by
          rw [ev_4]
          rcases hF with ⟨qa, qb⟩ | ⟨qa, qb⟩ | ⟨qa, qb⟩ | ⟨qa, qb⟩ | ⟨qa, qb⟩ | ⟨qa, qb⟩ | ⟨qa, qb⟩ <;> exact ti_mul (by rw [qa, qb]; decide) (by rw [qa, qb]; decide)
        refine lv_istore_n (lv' := [(1, .int v_4), (0, .int n), (2, .int x2)]) hx hb dX4_factorial_12 rfl hl (by decide) rfl (fun ls hl => ?_)
        obtain ⟨v_5, ev_5⟩ : ∃ z : Int32, z = x2 + 1 := ⟨_, rfl⟩
        have tv_5 : v_5.toInt = x2.toInt + 1 := by rw [ev_5]; exact ti_add (x := x2) (y := 1) (show -2147483648 ≤ x2.toInt + 1 by omega) (show x2.toInt + 1 < 2147483648 by omega)
        refine lv_iinc (v := v_5) (lv' := [(2, .int v_5), (1, .int v_4), (0, .int n)]) hx hb dX4_factorial_13 hl (k := 2) rfl (by rw [ev_5]; rfl) (by decide) rfl (fun ls hl => ?_)
        refine lv_goto (tgt := 4) hx hb dX4_factorial_16 (by decide) ?_
        exact ih_2 v_4 v_5 _ _ _ (show (8 - v_5.toInt).toNat < fu_1 by omega) (show 2 ≤ v_5.toInt ∧ v_5.toInt ≤ 8 by omega) ((by rcases hF with ⟨qa, qb⟩ | ⟨qa, qb⟩ | ⟨qa, qb⟩ | ⟨qa, qb⟩ | ⟨qa, qb⟩ | ⟨qa, qb⟩ | ⟨qa, qb⟩ <;> rw [qa, qb] at tvF <;> omega : (v_5.toInt = 2 ∧ v_4.toInt = 1) ∨ (v_5.toInt = 3 ∧ v_4.toInt = 2) ∨ (v_5.toInt = 4 ∧ v_4.toInt = 6) ∨ (v_5.toInt = 5 ∧ v_4.toInt = 24) ∨ (v_5.toInt = 6 ∧ v_4.toInt = 120) ∨ (v_5.toInt = 7 ∧ v_4.toInt = 720) ∨ (v_5.toInt = 8 ∧ v_4.toInt = 5040))) hP hD hS (lv_sub hl [2, 1, 0] rfl)
  exact LOOP_1 _ 1 2 _ _ _ (Nat.lt_succ_self _) (by decide) (Or.inl ⟨by decide, by decide⟩) hP hD hS (lv_sub hl [2, 1, 0] rfl)

set_option maxHeartbeats 600000 in
set_option maxRecDepth 100000 in
theorem c_X4_common (l : Launch) (D : va_G) (cI cZ cM : ClassId) (n : Int32) (k : Int32) (sz : Nat) (hk0 : k.toInt ≠ 0) : Ci l yX4_common wsX4_common ({ frames := 0, cells := 0, slots := 0, locals := 0 } : Room) D cI cZ cM [.int n, .int k] [] sz (fun (r : Int32) (u : Unit) => r.toInt ≠ 0) (fun u => []) 0 0 := by
  refine begins (l := l) (y := yX4_common) (ws := wsX4_common) (av := [.int n, .int k]) (Qc := fun A => va_Qi (fun (r : Int32) (u : Unit) => r.toInt ≠ 0) (fun u => Wd D cI cZ cM A ((fun u => []) u)) A) cX4_common 5 (some .int) (by decide) rfl (Nat.le_of_ble_eq_true rfl) ?_
  intro p e s m args below meth c R Q A ls hBd hR hQ hA hS hK hP hD hl
  obtain ⟨hx, hb, hr, hts, hown, hlocks, hin, hml⟩ := hBd
  have hl : lv_has ls 5 [(0, .int n), (1, .int k)] := hl
  refine lv_iload_n hx hb dX4_common_0 rfl (lv_at hl 0 rfl) ?_
  refine lv_if_ge (tgt := 9) hx hb dX4_common_1 (by decide) (fun c_1 => ?_) (fun c_1 => ?_)
  · have tc_1 := b_le (show (0 : Int32).toInt = 0 by decide) rfl c_1
    refine lv_iload_n hx hb dX4_common_9 rfl (lv_at hl 0 rfl) ?_
    refine lv_istore_n (lv' := [(2, .int n), (0, .int n), (1, .int k)]) hx hb dX4_common_10 rfl hl (by decide) rfl (fun ls hl => ?_)
    refine lv_iload_n hx hb dX4_common_11 rfl (lv_at hl 2 rfl) ?_
    refine lv_istore_n (lv' := [(3, .int k), (2, .int n), (0, .int n), (1, .int k)]) hx hb dX4_common_12 rfl hl (by decide) rfl (fun ls hl => ?_)
    have LOOP_2 : ∀ (fu_2 : Nat) (w2 : Int32) (w3 : Int32) (H : Heap) (locs : List Loc) (ls : Array Slot), w3.toInt.natAbs < fu_2 → (w2.toInt ≠ 0 ∨ w3.toInt ≠ 0) → va_P D vwCl [] H → va_D A [] → va_S A s.heap H locs → lv_has ls 5 [(0, .int n), (1, .int k), (2, .int w2), (3, .int w3)] → W p l e R s m args below meth c H locs 0 0 Q (F0 m 13 ls []) := by
      intro fu_2
      induction fu_2 with
      | zero => intro w2 w3 H locs ls hmu; exact absurd hmu (Nat.not_lt_zero _)
      | succ fu_2 ih =>
        intro w2 w3 H locs ls hmu hn0 hP hD hS hl
        have ih_3 := ih
        clear ih
        refine lv_iload_n hx hb dX4_common_13 rfl (lv_at hl 3 rfl) ?_
        refine lv_if_eq (tgt := 30) hx hb dX4_common_14 (by decide) (fun c_4 => ?_) (fun c_4 => ?_)
        · have tc_4 := b_eq rfl (show (0 : Int32).toInt = 0 by decide) c_4
          refine lv_iload_n hx hb dX4_common_30 rfl (lv_at hl 2 rfl) ?_
          exact ret_i (post := (fun (r : Int32) (u : Unit) => r.toInt ≠ 0)) (W1 := (fun u => [])) () hx hb hr hlocks rfl hQ hK hP hD hS ⟨by decide, by decide⟩ dX4_common_31 (show w2.toInt ≠ 0 by omega)
        · have tc_4 := b_ne rfl (show (0 : Int32).toInt = 0 by decide) c_4
          refine lv_iload_n hx hb dX4_common_17 rfl (lv_at hl 2 rfl) ?_
          refine lv_iload_n hx hb dX4_common_18 rfl (lv_at hl 3 rfl) ?_
          refine lv_irem hx hb dX4_common_19 (fun z0 => absurd (b_eq rfl (show (0 : Int32).toInt = 0 by decide) z0) (show w3.toInt ≠ 0 by omega)) ?_
          refine lv_topi (fun v_5 ev_5 => ?_)
          have RA := rem_abs (fun z0 => absurd (b_eq rfl (show (0 : Int32).toInt = 0 by decide) z0) (show w3.toInt ≠ 0 by omega)) ev_5
          refine lv_istore (lv' := [(4, .int v_5), (0, .int n), (1, .int k), (2, .int w2), (3, .int w3)]) hx hb dX4_common_20 hl (by decide) rfl (fun ls hl => ?_)
          refine lv_iload_n hx hb dX4_common_22 rfl (lv_at hl 4 rfl) ?_
          refine lv_istore_n (lv' := [(2, .int w3), (4, .int v_5), (0, .int n), (1, .int k), (3, .int w3)]) hx hb dX4_common_23 rfl hl (by decide) rfl (fun ls hl => ?_)
          refine lv_iload hx hb dX4_common_24 (lv_at hl 1 rfl) ?_
          refine lv_istore_n (lv' := [(3, .int v_5), (2, .int w3), (4, .int v_5), (0, .int n), (1, .int k)]) hx hb dX4_common_26 rfl hl (by decide) rfl (fun ls hl => ?_)
          refine lv_goto (tgt := 13) hx hb dX4_common_27 (by decide) ?_
          exact ih_3 w3 v_5 _ _ _ (Nat.lt_of_lt_of_le RA (Nat.le_of_lt_succ hmu)) (show w3.toInt ≠ 0 ∨ v_5.toInt ≠ 0 by omega) hP hD hS (lv_sub hl [3, 4, 1, 0] rfl)
    exact LOOP_2 _ n k _ _ _ (Nat.lt_succ_self _) (show n.toInt ≠ 0 ∨ k.toInt ≠ 0 by omega) hP hD hS (lv_sub hl [2, 3, 1, 0] rfl)
  · have tc_1 := b_nle (show (0 : Int32).toInt = 0 by decide) rfl c_1
    refine lv_iload_n hx hb dX4_common_4 rfl (lv_at hl 0 rfl) ?_
    refine lv_ineg hx hb dX4_common_5 ?_
    refine lv_topi (fun v_6 ev_6 => ?_)
    refine lv_goto (tgt := 10) hx hb dX4_common_6 (by decide) ?_
    refine lv_istore_n (lv' := [(2, .int v_6), (0, .int n), (1, .int k)]) hx hb dX4_common_10 rfl hl (by decide) rfl (fun ls hl => ?_)
    refine lv_iload_n hx hb dX4_common_11 rfl (lv_at hl 2 rfl) ?_
    refine lv_istore_n (lv' := [(3, .int k), (2, .int v_6), (0, .int n), (1, .int k)]) hx hb dX4_common_12 rfl hl (by decide) rfl (fun ls hl => ?_)
    have LOOP_7 : ∀ (fu_7 : Nat) (w2 : Int32) (w3 : Int32) (H : Heap) (locs : List Loc) (ls : Array Slot), w3.toInt.natAbs < fu_7 → (w2.toInt ≠ 0 ∨ w3.toInt ≠ 0) → va_P D vwCl [] H → va_D A [] → va_S A s.heap H locs → lv_has ls 5 [(0, .int n), (1, .int k), (2, .int w2), (3, .int w3)] → W p l e R s m args below meth c H locs 0 0 Q (F0 m 13 ls []) := by
      intro fu_7
      induction fu_7 with
      | zero => intro w2 w3 H locs ls hmu; exact absurd hmu (Nat.not_lt_zero _)
      | succ fu_7 ih =>
        intro w2 w3 H locs ls hmu hn0 hP hD hS hl
        have ih_8 := ih
        clear ih
        refine lv_iload_n hx hb dX4_common_13 rfl (lv_at hl 3 rfl) ?_
        refine lv_if_eq (tgt := 30) hx hb dX4_common_14 (by decide) (fun c_9 => ?_) (fun c_9 => ?_)
        · have tc_9 := b_eq rfl (show (0 : Int32).toInt = 0 by decide) c_9
          refine lv_iload_n hx hb dX4_common_30 rfl (lv_at hl 2 rfl) ?_
          exact ret_i (post := (fun (r : Int32) (u : Unit) => r.toInt ≠ 0)) (W1 := (fun u => [])) () hx hb hr hlocks rfl hQ hK hP hD hS ⟨by decide, by decide⟩ dX4_common_31 (show w2.toInt ≠ 0 by omega)
        · have tc_9 := b_ne rfl (show (0 : Int32).toInt = 0 by decide) c_9
          refine lv_iload_n hx hb dX4_common_17 rfl (lv_at hl 2 rfl) ?_
          refine lv_iload_n hx hb dX4_common_18 rfl (lv_at hl 3 rfl) ?_
          refine lv_irem hx hb dX4_common_19 (fun z0 => absurd (b_eq rfl (show (0 : Int32).toInt = 0 by decide) z0) (show w3.toInt ≠ 0 by omega)) ?_
          refine lv_topi (fun v_10 ev_10 => ?_)
          have RA := rem_abs (fun z0 => absurd (b_eq rfl (show (0 : Int32).toInt = 0 by decide) z0) (show w3.toInt ≠ 0 by omega)) ev_10
          refine lv_istore (lv' := [(4, .int v_10), (0, .int n), (1, .int k), (2, .int w2), (3, .int w3)]) hx hb dX4_common_20 hl (by decide) rfl (fun ls hl => ?_)
          refine lv_iload_n hx hb dX4_common_22 rfl (lv_at hl 4 rfl) ?_
          refine lv_istore_n (lv' := [(2, .int w3), (4, .int v_10), (0, .int n), (1, .int k), (3, .int w3)]) hx hb dX4_common_23 rfl hl (by decide) rfl (fun ls hl => ?_)
          refine lv_iload hx hb dX4_common_24 (lv_at hl 1 rfl) ?_
          refine lv_istore_n (lv' := [(3, .int v_10), (2, .int w3), (4, .int v_10), (0, .int n), (1, .int k)]) hx hb dX4_common_26 rfl hl (by decide) rfl (fun ls hl => ?_)
          refine lv_goto (tgt := 13) hx hb dX4_common_27 (by decide) ?_
          exact ih_8 w3 v_10 _ _ _ (Nat.lt_of_lt_of_le RA (Nat.le_of_lt_succ hmu)) (show w3.toInt ≠ 0 ∨ v_10.toInt ≠ 0 by omega) hP hD hS (lv_sub hl [3, 4, 1, 0] rfl)
    exact LOOP_7 _ v_6 k _ _ _ (Nat.lt_succ_self _) (show v_6.toInt ≠ 0 ∨ k.toInt ≠ 0 by omega) hP hD hS (lv_sub hl [2, 3, 1, 0] rfl)

set_option maxHeartbeats 600000 in
set_option maxRecDepth 100000 in
theorem c_X4_share (l : Launch) (D : va_G) (cI cZ cM : ClassId) (h0 : Nat) (n : Int32) (z : Int32) (ype : Int32) (ytk : Int32) (ywi : Nat) (yki : Nat) (yse : Nat) (yno : Nat) (yrh : Nat) (yrw : Nat) (yrk : Nat) (yrt : Nat) (yrp : Int32) (yrq : Int32) (ytx : Nat) (yle : Int32) (yat : Int32) (yfa : Int32) (yby : Nat) (ylo : Nat) (yhi : Nat) (yac : Int32) (ynx : Int32) (yro : Nat) (ygl : Nat) (ysn : Int32) (yso : Nat) (ysp : Nat) (ysw : Nat) (ysd : Int64) (yik : Nat) (ykp : Nat) (Fno : Nat → Int32) (Fki : Nat → Int32) (Fby : Nat → Int32) (Flo : Nat → Int32) (Fhi : Nat → Int32) (Fwi : Nat → Int32) (Fgl : Nat → Int32) (sz : Nat) (hBy : ByOk Fby) (h_ype : 0 ≤ ype.toInt ∧ ype.toInt ≤ 5) (h_ytk : 0 ≤ ytk.toInt ∧ ytk.toInt ≤ 6) : Ci l yX4_share wsX4_share ({ frames := 4, cells := 0, slots := 0, locals := 99 } : Room) D cI cZ cM [.ref h0, .int n, .int z] [(h0, .inr (4, [.int ype, .int ytk, .ref ywi, .ref yki, .ref yse, .ref yno, .ref yrh, .ref yrw, .ref yrk, .ref yrt, .int yrp, .int yrq, .ref ytx, .int yle, .int yat, .int yfa, .ref yby, .ref ylo, .ref yhi, .int yac, .int ynx, .ref yro, .ref ygl, .int ysn, .ref yso, .ref ysp, .ref ysw, .long ysd, .ref yik, .ref ykp])), (yno, .inl (cI, 96, .inl Fno)), (yki, .inl (cI, 5, .inl Fki)), (yby, .inl (cI, 5, .inl Fby)), (ylo, .inl (cI, 5, .inl Flo)), (yhi, .inl (cI, 5, .inl Fhi)), (ywi, .inl (cI, 5, .inl Fwi)), (ygl, .inl (cI, 64, .inl Fgl))] sz (fun (r : Int32) (u : (Nat → Int32) × (Nat → Int32) × (Nat → Int32) × (Nat → Int32) × (Nat → Int32)) => ByOk u.2.1) (fun u => [(h0, .inr (4, [.int ype, .int ytk, .ref ywi, .ref yki, .ref yse, .ref yno, .ref yrh, .ref yrw, .ref yrk, .ref yrt, .int yrp, .int yrq, .ref ytx, .int yle, .int yat, .int yfa, .ref yby, .ref ylo, .ref yhi, .int yac, .int ynx, .ref yro, .ref ygl, .int ysn, .ref yso, .ref ysp, .ref ysw, .long ysd, .ref yik, .ref ykp])), (yno, .inl (cI, 96, .inl u.1)), (yki, .inl (cI, 5, .inl Fki)), (yby, .inl (cI, 5, .inl u.2.1)), (ylo, .inl (cI, 5, .inl u.2.2.1)), (yhi, .inl (cI, 5, .inl u.2.2.2.1)), (ywi, .inl (cI, 5, .inl Fwi)), (ygl, .inl (cI, 64, .inl u.2.2.2.2))]) 0 0 := by
  refine begins (l := l) (y := yX4_share) (ws := wsX4_share) (av := [.ref h0, .int n, .int z]) (Qc := fun A => va_Qi (fun (r : Int32) (u : (Nat → Int32) × (Nat → Int32) × (Nat → Int32) × (Nat → Int32) × (Nat → Int32)) => ByOk u.2.1) (fun u => Wd D cI cZ cM A ((fun u => [(h0, .inr (4, [.int ype, .int ytk, .ref ywi, .ref yki, .ref yse, .ref yno, .ref yrh, .ref yrw, .ref yrk, .ref yrt, .int yrp, .int yrq, .ref ytx, .int yle, .int yat, .int yfa, .ref yby, .ref ylo, .ref yhi, .int yac, .int ynx, .ref yro, .ref ygl, .int ysn, .ref yso, .ref ysp, .ref ysw, .long ysd, .ref yik, .ref ykp])), (yno, .inl (cI, 96, .inl u.1)), (yki, .inl (cI, 5, .inl Fki)), (yby, .inl (cI, 5, .inl u.2.1)), (ylo, .inl (cI, 5, .inl u.2.2.1)), (yhi, .inl (cI, 5, .inl u.2.2.2.1)), (ywi, .inl (cI, 5, .inl Fwi)), (ygl, .inl (cI, 64, .inl u.2.2.2.2))]) u)) A) cX4_share 8 (some .int) (by decide) rfl (Nat.le_of_ble_eq_true rfl) ?_
  intro p e s m args below meth c R Q A ls hBd hR hQ hA hS hK hP hD hl
  obtain ⟨hx, hb, hr, hts, hown, hlocks, hin, hml⟩ := hBd
  have hl : lv_has ls 8 [(0, .ref h0), (1, .int n), (2, .int z)] := hl
  have iX4 : ∀ w ∈ wsX40, w ∈ wsX4_share := fun _ h => List.mem_cons_of_mem _ (List.mem_append_right _ h)
  obtain ⟨h_ypea, h_ypeb⟩ := h_ype
  obtain ⟨h_ytka, h_ytkb⟩ := h_ytk
  refine lv_aload_n hx hb dX4_share_0 rfl (lv_at hl 0 rfl) ?_
  refine lv_iload_n hx hb dX4_share_1 rfl (lv_at hl 1 rfl) ?_
  refine cV_i (As := [.int n]) (rest := []) ⟨hx, hb, hml, hown, hts⟩ (c_X4_isTicket l D cI cZ cM h0 n ype ytk ywi yki yse yno yrh yrw yrk yrt yrp yrq ytx yle yat yfa yby ylo yhi yac ynx yro ygl ysn yso ysp ysw ysd yik ykp _ (show 0 ≤ ytk.toInt ∧ ytk.toInt ≤ 6 by omega)) (cwV 1 hts gX4_share_X4_isTicket rfl rfl rfl (by decide +kernel) ⟨by rw [hR]; decide, by rw [hR]; decide⟩) hK hP hD hS hA [0] [1, 2, 3, 4, 5, 6, 7] rfl rfl (by decide) (by decide) (by decide) rfl 0 rfl hl.1 rfl rfl (Nat.le_of_ble_eq_true rfl) dX4_share_2 ⟨by rw [hR]; decide, by rw [hR]; decide⟩ (fun r_1 u_2 H locs hw hP hD hS => ?_)
  have hP : va_P D vwCl [(h0, .inr (4, [.int ype, .int ytk, .ref ywi, .ref yki, .ref yse, .ref yno, .ref yrh, .ref yrw, .ref yrk, .ref yrt, .int yrp, .int yrq, .ref ytx, .int yle, .int yat, .int yfa, .ref yby, .ref ylo, .ref yhi, .int yac, .int ynx, .ref yro, .ref ygl, .int ysn, .ref yso, .ref ysp, .ref ysw, .long ysd, .ref yik, .ref ykp])), (yno, .inl (cI, 96, .inl Fno)), (yki, .inl (cI, 5, .inl Fki)), (yby, .inl (cI, 5, .inl Fby)), (ylo, .inl (cI, 5, .inl Flo)), (yhi, .inl (cI, 5, .inl Fhi)), (ywi, .inl (cI, 5, .inl Fwi)), (ygl, .inl (cI, 64, .inl Fgl))] H := hP.sub [7, 0, 1, 2, 3, 4, 5, 6] rfl
  have hD : va_D A [(h0, .inr (4, [.int ype, .int ytk, .ref ywi, .ref yki, .ref yse, .ref yno, .ref yrh, .ref yrw, .ref yrk, .ref yrt, .int yrp, .int yrq, .ref ytx, .int yle, .int yat, .int yfa, .ref yby, .ref ylo, .ref yhi, .int yac, .int ynx, .ref yro, .ref ygl, .int ysn, .ref yso, .ref ysp, .ref ysw, .long ysd, .ref yik, .ref ykp])), (yno, .inl (cI, 96, .inl Fno)), (yki, .inl (cI, 5, .inl Fki)), (yby, .inl (cI, 5, .inl Fby)), (ylo, .inl (cI, 5, .inl Flo)), (yhi, .inl (cI, 5, .inl Fhi)), (ywi, .inl (cI, 5, .inl Fwi)), (ygl, .inl (cI, 64, .inl Fgl))] := hD.sub [7, 0, 1, 2, 3, 4, 5, 6] (by decide) rfl
  refine W.widen (k := 0) (n := 0) (Nat.le_refl _) (Nat.le_refl _) ?_
  have hw : (r_1.toInt = 1 ∧ 0 ≤ n.toInt ∧ n.toInt < ytk.toInt) ∨ (r_1.toInt = 0 ∧ (n.toInt < 0 ∨ ytk.toInt ≤ n.toInt)) := hw
  have hw_3 := hw
  refine lv_if_ne (tgt := 10) hx hb dX4_share_5 (by decide) (fun c_4 => ?_) (fun c_4 => ?_)
  · have tc_4 := b_ne rfl (show (0 : Int32).toInt = 0 by decide) c_4
    have hn1 : 0 ≤ n.toInt := by omega
    have hn2 : n.toInt ≤ 5 := by omega
    refine lv_aload_n hx hb dX4_share_10 rfl (lv_at hl 0 rfl) ?_
    refine lv_iload_n hx hb dX4_share_11 rfl (lv_at hl 1 rfl) ?_
    refine cV_i (As := [.int n]) (rest := []) ⟨hx, hb, hml, hown, hts⟩ (c_X4_isGone l D cI cZ cM h0 n ype ytk ywi yki yse yno yrh yrw yrk yrt yrp yrq ytx yle yat yfa yby ylo yhi yac ynx yro ygl ysn yso ysp ysw ysd yik ykp Fno _ (show 0 ≤ n.toInt ∧ n.toInt ≤ 6 by omega)) (cwV 1 hts gX4_share_X4_isGone rfl rfl rfl (by decide +kernel) ⟨by rw [hR]; decide, by rw [hR]; decide⟩) hK hP hD hS hA [0, 1] [2, 3, 4, 5, 6, 7] rfl rfl (by decide) (by decide) (by decide) rfl 0 rfl hl.1 rfl rfl (Nat.le_of_ble_eq_true rfl) dX4_share_12 ⟨by rw [hR]; decide, by rw [hR]; decide⟩ (fun r_5 u_6 H locs hw hP hD hS => ?_)
    have hP : va_P D vwCl [(h0, .inr (4, [.int ype, .int ytk, .ref ywi, .ref yki, .ref yse, .ref yno, .ref yrh, .ref yrw, .ref yrk, .ref yrt, .int yrp, .int yrq, .ref ytx, .int yle, .int yat, .int yfa, .ref yby, .ref ylo, .ref yhi, .int yac, .int ynx, .ref yro, .ref ygl, .int ysn, .ref yso, .ref ysp, .ref ysw, .long ysd, .ref yik, .ref ykp])), (yno, .inl (cI, 96, .inl Fno)), (yki, .inl (cI, 5, .inl Fki)), (yby, .inl (cI, 5, .inl Fby)), (ylo, .inl (cI, 5, .inl Flo)), (yhi, .inl (cI, 5, .inl Fhi)), (ywi, .inl (cI, 5, .inl Fwi)), (ygl, .inl (cI, 64, .inl Fgl))] H := hP.sub [6, 7, 0, 1, 2, 3, 4, 5] rfl
    have hD : va_D A [(h0, .inr (4, [.int ype, .int ytk, .ref ywi, .ref yki, .ref yse, .ref yno, .ref yrh, .ref yrw, .ref yrk, .ref yrt, .int yrp, .int yrq, .ref ytx, .int yle, .int yat, .int yfa, .ref yby, .ref ylo, .ref yhi, .int yac, .int ynx, .ref yro, .ref ygl, .int ysn, .ref yso, .ref ysp, .ref ysw, .long ysd, .ref yik, .ref ykp])), (yno, .inl (cI, 96, .inl Fno)), (yki, .inl (cI, 5, .inl Fki)), (yby, .inl (cI, 5, .inl Fby)), (ylo, .inl (cI, 5, .inl Flo)), (yhi, .inl (cI, 5, .inl Fhi)), (ywi, .inl (cI, 5, .inl Fwi)), (ygl, .inl (cI, 64, .inl Fgl))] := hD.sub [6, 7, 0, 1, 2, 3, 4, 5] (by decide) rfl
    refine W.widen (k := 0) (n := 0) (Nat.le_refl _) (Nat.le_refl _) ?_
    have hw : (r_5.toInt = 0 ∨ r_5.toInt = 1) := hw
    have hw_7 := hw
    refine lv_if_eq (tgt := 28) hx hb dX4_share_15 (by decide) (fun c_8 => ?_) (fun c_8 => ?_)
    · have tc_8 := b_eq rfl (show (0 : Int32).toInt = 0 by decide) c_8
      refine lv_iconst (v := 1) hx hb dX4_share_28 (by decide) ?_
      refine lv_aload_n hx hb dX4_share_29 rfl (lv_at hl 0 rfl) ?_
      refine va_get (D := D) (ci := 4) (v := .int ytk) (C := RX4) (T := TX4) (N := 30) hx hb hts iX4 hown hK hP 0 rfl rfl 1 (by decide) (hts (.fieldLink RX4 101 "PunchedTicketModel" "tickets" "I") (List.mem_of_getElem? (i := 1) rfl)) (fun _ h9 => h9) rfl dX4_share_30 ?_
      refine lv_ishl hx hb dX4_share_33 ?_
      refine lv_topi (fun v_9 ev_9 => ?_)
      obtain ⟨hv_9a, hv_9b⟩ := sh1_bd (show 0 ≤ ytk.toInt by omega) (by omega) ev_9
      refine lv_iconst (v := 1) hx hb dX4_share_34 (by decide) ?_
      refine lv_isub hx hb dX4_share_35 ?_
      refine lv_topi (fun v_10 ev_10 => ?_)
      have tv_10 : v_10.toInt = v_9.toInt - (1 : Int) := by rw [ev_10]; exact ti_sub (x := v_9) (y := 1) (show -2147483648 ≤ v_9.toInt - (1 : Int) by omega) (show v_9.toInt - (1 : Int) < 2147483648 by omega)
      refine lv_aload_n hx hb dX4_share_36 rfl (lv_at hl 0 rfl) ?_
      refine cV_i (As := []) (rest := [.int v_10]) ⟨hx, hb, hml, hown, hts⟩ (c_X4_goneNow l D cI cZ cM h0 ype ytk ywi yki yse yno yrh yrw yrk yrt yrp yrq ytx yle yat yfa yby ylo yhi yac ynx yro ygl ysn yso ysp ysw ysd yik ykp Fno _ (show 0 ≤ ytk.toInt ∧ ytk.toInt ≤ 6 by omega)) (cwV 0 hts gX4_share_X4_goneNow rfl rfl rfl (by decide +kernel) ⟨by rw [hR]; decide, by rw [hR]; decide⟩) hK hP hD hS hA [0, 1] [2, 3, 4, 5, 6, 7] rfl rfl (by decide) (by decide) (by decide) rfl 0 rfl hl.1 rfl rfl (Nat.le_of_ble_eq_true rfl) dX4_share_37 ⟨by rw [hR]; decide, by rw [hR]; decide⟩ (fun r_11 u_12 H locs hw hP hD hS => ?_)
      have hP : va_P D vwCl [(h0, .inr (4, [.int ype, .int ytk, .ref ywi, .ref yki, .ref yse, .ref yno, .ref yrh, .ref yrw, .ref yrk, .ref yrt, .int yrp, .int yrq, .ref ytx, .int yle, .int yat, .int yfa, .ref yby, .ref ylo, .ref yhi, .int yac, .int ynx, .ref yro, .ref ygl, .int ysn, .ref yso, .ref ysp, .ref ysw, .long ysd, .ref yik, .ref ykp])), (yno, .inl (cI, 96, .inl Fno)), (yki, .inl (cI, 5, .inl Fki)), (yby, .inl (cI, 5, .inl Fby)), (ylo, .inl (cI, 5, .inl Flo)), (yhi, .inl (cI, 5, .inl Fhi)), (ywi, .inl (cI, 5, .inl Fwi)), (ygl, .inl (cI, 64, .inl Fgl))] H := hP.sub [6, 7, 0, 1, 2, 3, 4, 5] rfl
      have hD : va_D A [(h0, .inr (4, [.int ype, .int ytk, .ref ywi, .ref yki, .ref yse, .ref yno, .ref yrh, .ref yrw, .ref yrk, .ref yrt, .int yrp, .int yrq, .ref ytx, .int yle, .int yat, .int yfa, .ref yby, .ref ylo, .ref yhi, .int yac, .int ynx, .ref yro, .ref ygl, .int ysn, .ref yso, .ref ysp, .ref ysw, .long ysd, .ref yik, .ref ykp])), (yno, .inl (cI, 96, .inl Fno)), (yki, .inl (cI, 5, .inl Fki)), (yby, .inl (cI, 5, .inl Fby)), (ylo, .inl (cI, 5, .inl Flo)), (yhi, .inl (cI, 5, .inl Fhi)), (ywi, .inl (cI, 5, .inl Fwi)), (ygl, .inl (cI, 64, .inl Fgl))] := hD.sub [6, 7, 0, 1, 2, 3, 4, 5] (by decide) rfl
      refine W.widen (k := 0) (n := 0) (Nat.le_refl _) (Nat.le_refl _) ?_
      refine lv_iconst (v := (-1)) hx hb dX4_share_40 (by decide) ?_
      refine lv_ixor hx hb dX4_share_41 ?_
      refine lv_topi (fun v_13 ev_13 => ?_)
      refine lv_iand hx hb dX4_share_42 ?_
      refine lv_topi (fun v_14 ev_14 => ?_)
      obtain ⟨hv_14a, hv_14b⟩ := and_bd (show 0 ≤ v_10.toInt by omega) ev_14
      refine lv_istore_n (lv' := [(3, .int v_14), (0, .ref h0), (1, .int n), (2, .int z)]) hx hb dX4_share_43 rfl hl (by decide) rfl (fun ls hl => ?_)
      refine lv_iload_n hx hb dX4_share_44 rfl (lv_at hl 0 rfl) ?_
      refine cS_i (As := [.int v_14]) (rest := []) ⟨hx, hb, hml, hown, hts⟩ (c_X4_ones l D cI cZ cM v_14 _ ) (va_cwS 1 hts gX4_share_X4_ones rfl rfl rfl (by decide +kernel) ⟨by rw [hR]; decide, by rw [hR]; decide⟩) hK hP hD hS hA [] [0, 1, 2, 3, 4, 5, 6, 7] rfl rfl (by decide) (by decide) (by decide) hl.1 rfl rfl (Nat.le_of_ble_eq_true rfl) dX4_share_45 ⟨by rw [hR]; decide, by rw [hR]; decide⟩ (fun r_15 u_16 H locs hw hP hD hS => ?_)
      have hP : va_P D vwCl [(h0, .inr (4, [.int ype, .int ytk, .ref ywi, .ref yki, .ref yse, .ref yno, .ref yrh, .ref yrw, .ref yrk, .ref yrt, .int yrp, .int yrq, .ref ytx, .int yle, .int yat, .int yfa, .ref yby, .ref ylo, .ref yhi, .int yac, .int ynx, .ref yro, .ref ygl, .int ysn, .ref yso, .ref ysp, .ref ysw, .long ysd, .ref yik, .ref ykp])), (yno, .inl (cI, 96, .inl Fno)), (yki, .inl (cI, 5, .inl Fki)), (yby, .inl (cI, 5, .inl Fby)), (ylo, .inl (cI, 5, .inl Flo)), (yhi, .inl (cI, 5, .inl Fhi)), (ywi, .inl (cI, 5, .inl Fwi)), (ygl, .inl (cI, 64, .inl Fgl))] H := hP.sub [0, 1, 2, 3, 4, 5, 6, 7] rfl
      have hD : va_D A [(h0, .inr (4, [.int ype, .int ytk, .ref ywi, .ref yki, .ref yse, .ref yno, .ref yrh, .ref yrw, .ref yrk, .ref yrt, .int yrp, .int yrq, .ref ytx, .int yle, .int yat, .int yfa, .ref yby, .ref ylo, .ref yhi, .int yac, .int ynx, .ref yro, .ref ygl, .int ysn, .ref yso, .ref ysp, .ref ysw, .long ysd, .ref yik, .ref ykp])), (yno, .inl (cI, 96, .inl Fno)), (yki, .inl (cI, 5, .inl Fki)), (yby, .inl (cI, 5, .inl Fby)), (ylo, .inl (cI, 5, .inl Flo)), (yhi, .inl (cI, 5, .inl Fhi)), (ywi, .inl (cI, 5, .inl Fwi)), (ygl, .inl (cI, 64, .inl Fgl))] := hD.sub [0, 1, 2, 3, 4, 5, 6, 7] (by decide) rfl
      refine W.widen (k := 0) (n := 0) (Nat.le_refl _) (Nat.le_refl _) ?_
      have hw : 0 ≤ r_15.toInt ∧ r_15.toInt ≤ 7 := hw
      have hw_17 := hw
      obtain ⟨hw_17a, hw_17b⟩ := hw_17
      refine lv_istore (lv' := [(4, .int r_15), (3, .int v_14), (0, .ref h0), (1, .int n), (2, .int z)]) hx hb dX4_share_48 hl (by decide) rfl (fun ls hl => ?_)
      refine lv_iconst (v := 0) hx hb dX4_share_50 (by decide) ?_
      refine lv_istore (lv' := [(5, .int 0), (4, .int r_15), (3, .int v_14), (0, .ref h0), (1, .int n), (2, .int z)]) hx hb dX4_share_51 hl (by decide) rfl (fun ls hl => ?_)
      refine lv_iconst (v := 0) hx hb dX4_share_53 (by decide) ?_
      refine lv_istore (lv' := [(6, .int 0), (5, .int 0), (4, .int r_15), (3, .int v_14), (0, .ref h0), (1, .int n), (2, .int z)]) hx hb dX4_share_54 hl (by decide) rfl (fun ls hl => ?_)
      have LOOP_18 : ∀ (fu_18 : Nat) (x6 : Int32) (gn : Nat → Int32) (gb : Nat → Int32) (glo : Nat → Int32) (gh : Nat → Int32) (gg : Nat → Int32) (H : Heap) (locs : List Loc) (ls : Array Slot), (64 - x6.toInt).toNat < fu_18 → (0 ≤ x6.toInt ∧ x6.toInt ≤ 64) → (ByOk gb) → va_P D vwCl [(h0, .inr (4, [.int ype, .int ytk, .ref ywi, .ref yki, .ref yse, .ref yno, .ref yrh, .ref yrw, .ref yrk, .ref yrt, .int yrp, .int yrq, .ref ytx, .int yle, .int yat, .int yfa, .ref yby, .ref ylo, .ref yhi, .int yac, .int ynx, .ref yro, .ref ygl, .int ysn, .ref yso, .ref ysp, .ref ysw, .long ysd, .ref yik, .ref ykp])), (yno, .inl (cI, 96, .inl gn)), (yki, .inl (cI, 5, .inl Fki)), (yby, .inl (cI, 5, .inl gb)), (ylo, .inl (cI, 5, .inl glo)), (yhi, .inl (cI, 5, .inl gh)), (ywi, .inl (cI, 5, .inl Fwi)), (ygl, .inl (cI, 64, .inl gg))] H → va_D A [(h0, .inr (4, [.int ype, .int ytk, .ref ywi, .ref yki, .ref yse, .ref yno, .ref yrh, .ref yrw, .ref yrk, .ref yrt, .int yrp, .int yrq, .ref ytx, .int yle, .int yat, .int yfa, .ref yby, .ref ylo, .ref yhi, .int yac, .int ynx, .ref yro, .ref ygl, .int ysn, .ref yso, .ref ysp, .ref ysw, .long ysd, .ref yik, .ref ykp])), (yno, .inl (cI, 96, .inl gn)), (yki, .inl (cI, 5, .inl Fki)), (yby, .inl (cI, 5, .inl gb)), (ylo, .inl (cI, 5, .inl glo)), (yhi, .inl (cI, 5, .inl gh)), (ywi, .inl (cI, 5, .inl Fwi)), (ygl, .inl (cI, 64, .inl gg))] → va_S A s.heap H locs → lv_has ls 8 [(0, .ref h0), (1, .int n), (2, .int z), (3, .int v_14), (4, .int r_15), (5, .int 0), (6, .int x6)] → W p l e R s m args below meth c H locs 0 0 Q (F0 m 56 ls []) := by
        intro fu_18
        induction fu_18 with
        | zero => intro x6 gn gb glo gh gg H locs ls hmu; exact absurd hmu (Nat.not_lt_zero _)
        | succ fu_18 ih =>
          intro x6 gn gb glo gh gg H locs ls hmu h_x6 hby hP hD hS hl
          obtain ⟨h_x6a, h_x6b⟩ := h_x6
          have ih_19 := ih
          clear ih
          refine lv_iload hx hb dX4_share_56 (lv_at hl 6 rfl) ?_
          refine lv_iload_n hx hb dX4_share_58 rfl (lv_at hl 3 rfl) ?_
          refine lv_icmp_gt (tgt := 98) hx hb dX4_share_59 (by decide) (fun c_20 => ?_) (fun c_20 => ?_)
          · have tc_20 := b_lt rfl rfl c_20
            refine lv_iconst (v := 0) hx hb dX4_share_98 (by decide) ?_
            refine lv_istore (lv' := [(6, .int 0), (0, .ref h0), (1, .int n), (2, .int z), (3, .int v_14), (4, .int r_15), (5, .int 0)]) hx hb dX4_share_99 hl (by decide) rfl (fun ls hl => ?_)
            have LOOP_21 : ∀ (fu_21 : Nat) (w5 : Int32) (z6 : Int32) (H : Heap) (locs : List Loc) (ls : Array Slot), (64 - z6.toInt).toNat < fu_21 → (0 ≤ z6.toInt ∧ z6.toInt ≤ 64) → va_P D vwCl [(h0, .inr (4, [.int ype, .int ytk, .ref ywi, .ref yki, .ref yse, .ref yno, .ref yrh, .ref yrw, .ref yrk, .ref yrt, .int yrp, .int yrq, .ref ytx, .int yle, .int yat, .int yfa, .ref yby, .ref ylo, .ref yhi, .int yac, .int ynx, .ref yro, .ref ygl, .int ysn, .ref yso, .ref ysp, .ref ysw, .long ysd, .ref yik, .ref ykp])), (yno, .inl (cI, 96, .inl gn)), (yki, .inl (cI, 5, .inl Fki)), (yby, .inl (cI, 5, .inl gb)), (ylo, .inl (cI, 5, .inl glo)), (yhi, .inl (cI, 5, .inl gh)), (ywi, .inl (cI, 5, .inl Fwi)), (ygl, .inl (cI, 64, .inl gg))] H → va_D A [(h0, .inr (4, [.int ype, .int ytk, .ref ywi, .ref yki, .ref yse, .ref yno, .ref yrh, .ref yrw, .ref yrk, .ref yrt, .int yrp, .int yrq, .ref ytx, .int yle, .int yat, .int yfa, .ref yby, .ref ylo, .ref yhi, .int yac, .int ynx, .ref yro, .ref ygl, .int ysn, .ref yso, .ref ysp, .ref ysw, .long ysd, .ref yik, .ref ykp])), (yno, .inl (cI, 96, .inl gn)), (yki, .inl (cI, 5, .inl Fki)), (yby, .inl (cI, 5, .inl gb)), (ylo, .inl (cI, 5, .inl glo)), (yhi, .inl (cI, 5, .inl gh)), (ywi, .inl (cI, 5, .inl Fwi)), (ygl, .inl (cI, 64, .inl gg))] → va_S A s.heap H locs → lv_has ls 8 [(0, .ref h0), (1, .int n), (2, .int z), (3, .int v_14), (4, .int r_15), (5, .int w5), (6, .int z6)] → W p l e R s m args below meth c H locs 0 0 Q (F0 m 101 ls []) := by
              intro fu_21
              induction fu_21 with
              | zero => intro w5 z6 H locs ls hmu; exact absurd hmu (Nat.not_lt_zero _)
              | succ fu_21 ih =>
                intro w5 z6 H locs ls hmu h_z6 hP hD hS hl
                obtain ⟨h_z6a, h_z6b⟩ := h_z6
                have ih_22 := ih
                clear ih
                refine lv_iload hx hb dX4_share_101 (lv_at hl 6 rfl) ?_
                refine lv_iload_n hx hb dX4_share_103 rfl (lv_at hl 3 rfl) ?_
                refine lv_icmp_gt (tgt := 182) hx hb dX4_share_104 (by decide) (fun c_23 => ?_) (fun c_23 => ?_)
                · have tc_23 := b_lt rfl rfl c_23
                  refine lv_iload hx hb dX4_share_182 (lv_at hl 5 rfl) ?_
                  refine lv_iload hx hb dX4_share_184 (lv_at hl 4 rfl) ?_
                  refine cS_i (As := [.int r_15]) (rest := [.int w5]) ⟨hx, hb, hml, hown, hts⟩ (c_X4_factorial l D cI cZ cM r_15 _ (show -100 ≤ r_15.toInt ∧ r_15.toInt ≤ 7 by omega)) (va_cwS 1 hts gX4_share_X4_factorial rfl rfl rfl (by decide +kernel) ⟨by rw [hR]; decide, by rw [hR]; decide⟩) hK hP hD hS hA [] [0, 1, 2, 3, 4, 5, 6, 7] rfl rfl (by decide) (by decide) (by decide) hl.1 rfl rfl (Nat.le_of_ble_eq_true rfl) dX4_share_186 ⟨by rw [hR]; decide, by rw [hR]; decide⟩ (fun r_24 u_25 H locs hw hP hD hS => ?_)
                  have hP : va_P D vwCl [(h0, .inr (4, [.int ype, .int ytk, .ref ywi, .ref yki, .ref yse, .ref yno, .ref yrh, .ref yrw, .ref yrk, .ref yrt, .int yrp, .int yrq, .ref ytx, .int yle, .int yat, .int yfa, .ref yby, .ref ylo, .ref yhi, .int yac, .int ynx, .ref yro, .ref ygl, .int ysn, .ref yso, .ref ysp, .ref ysw, .long ysd, .ref yik, .ref ykp])), (yno, .inl (cI, 96, .inl gn)), (yki, .inl (cI, 5, .inl Fki)), (yby, .inl (cI, 5, .inl gb)), (ylo, .inl (cI, 5, .inl glo)), (yhi, .inl (cI, 5, .inl gh)), (ywi, .inl (cI, 5, .inl Fwi)), (ygl, .inl (cI, 64, .inl gg))] H := hP.sub [0, 1, 2, 3, 4, 5, 6, 7] rfl
                  have hD : va_D A [(h0, .inr (4, [.int ype, .int ytk, .ref ywi, .ref yki, .ref yse, .ref yno, .ref yrh, .ref yrw, .ref yrk, .ref yrt, .int yrp, .int yrq, .ref ytx, .int yle, .int yat, .int yfa, .ref yby, .ref ylo, .ref yhi, .int yac, .int ynx, .ref yro, .ref ygl, .int ysn, .ref yso, .ref ysp, .ref ysw, .long ysd, .ref yik, .ref ykp])), (yno, .inl (cI, 96, .inl gn)), (yki, .inl (cI, 5, .inl Fki)), (yby, .inl (cI, 5, .inl gb)), (ylo, .inl (cI, 5, .inl glo)), (yhi, .inl (cI, 5, .inl gh)), (ywi, .inl (cI, 5, .inl Fwi)), (ygl, .inl (cI, 64, .inl gg))] := hD.sub [0, 1, 2, 3, 4, 5, 6, 7] (by decide) rfl
                  refine W.widen (k := 0) (n := 0) (Nat.le_refl _) (Nat.le_refl _) ?_
                  have hw : 1 ≤ r_24.toInt ∧ r_24.toInt ≤ 5040 := hw
                  have hw_26 := hw
                  obtain ⟨hw_26a, hw_26b⟩ := hw_26
                  refine cS_i (As := [.int w5, .int r_24]) (rest := []) ⟨hx, hb, hml, hown, hts⟩ (c_X4_common l D cI cZ cM w5 r_24 _ (show r_24.toInt ≠ 0 by omega)) (va_cwS 2 hts gX4_share_X4_common rfl rfl rfl (by decide +kernel) ⟨by rw [hR]; decide, by rw [hR]; decide⟩) hK hP hD hS hA [] [0, 1, 2, 3, 4, 5, 6, 7] rfl rfl (by decide) (by decide) (by decide) hl.1 rfl rfl (Nat.le_of_ble_eq_true rfl) dX4_share_189 ⟨by rw [hR]; decide, by rw [hR]; decide⟩ (fun r_27 u_28 H locs hw hP hD hS => ?_)
                  have hP : va_P D vwCl [(h0, .inr (4, [.int ype, .int ytk, .ref ywi, .ref yki, .ref yse, .ref yno, .ref yrh, .ref yrw, .ref yrk, .ref yrt, .int yrp, .int yrq, .ref ytx, .int yle, .int yat, .int yfa, .ref yby, .ref ylo, .ref yhi, .int yac, .int ynx, .ref yro, .ref ygl, .int ysn, .ref yso, .ref ysp, .ref ysw, .long ysd, .ref yik, .ref ykp])), (yno, .inl (cI, 96, .inl gn)), (yki, .inl (cI, 5, .inl Fki)), (yby, .inl (cI, 5, .inl gb)), (ylo, .inl (cI, 5, .inl glo)), (yhi, .inl (cI, 5, .inl gh)), (ywi, .inl (cI, 5, .inl Fwi)), (ygl, .inl (cI, 64, .inl gg))] H := hP.sub [0, 1, 2, 3, 4, 5, 6, 7] rfl
                  have hD : va_D A [(h0, .inr (4, [.int ype, .int ytk, .ref ywi, .ref yki, .ref yse, .ref yno, .ref yrh, .ref yrw, .ref yrk, .ref yrt, .int yrp, .int yrq, .ref ytx, .int yle, .int yat, .int yfa, .ref yby, .ref ylo, .ref yhi, .int yac, .int ynx, .ref yro, .ref ygl, .int ysn, .ref yso, .ref ysp, .ref ysw, .long ysd, .ref yik, .ref ykp])), (yno, .inl (cI, 96, .inl gn)), (yki, .inl (cI, 5, .inl Fki)), (yby, .inl (cI, 5, .inl gb)), (ylo, .inl (cI, 5, .inl glo)), (yhi, .inl (cI, 5, .inl gh)), (ywi, .inl (cI, 5, .inl Fwi)), (ygl, .inl (cI, 64, .inl gg))] := hD.sub [0, 1, 2, 3, 4, 5, 6, 7] (by decide) rfl
                  refine W.widen (k := 0) (n := 0) (Nat.le_refl _) (Nat.le_refl _) ?_
                  have hw : r_27.toInt ≠ 0 := hw
                  have hw_29 := hw
                  refine lv_istore (lv' := [(6, .int r_27), (0, .ref h0), (1, .int n), (2, .int z), (3, .int v_14), (4, .int r_15), (5, .int w5)]) hx hb dX4_share_192 hl (by decide) rfl (fun ls hl => ?_)
                  refine lv_iload_n hx hb dX4_share_194 rfl (lv_at hl 3 rfl) ?_
                  refine lv_if_eq (tgt := 206) hx hb dX4_share_195 (by decide) (fun c_30 => ?_) (fun c_30 => ?_)
                  · have tc_30 := b_eq rfl (show (0 : Int32).toInt = 0 by decide) c_30
                    refine lv_iload hx hb dX4_share_206 (lv_at hl 5 rfl) ?_
                    refine cS_i (As := [.int r_15]) (rest := []) ⟨hx, hb, hml, hown, hts⟩ (c_X4_factorial l D cI cZ cM r_15 _ (show -100 ≤ r_15.toInt ∧ r_15.toInt ≤ 7 by omega)) (va_cwS 1 hts gX4_share_X4_factorial rfl rfl rfl (by decide +kernel) ⟨by rw [hR]; decide, by rw [hR]; decide⟩) hK hP hD hS hA [] [0, 1, 2, 3, 4, 5, 6, 7] rfl rfl (by decide) (by decide) (by decide) hl.1 rfl rfl (Nat.le_of_ble_eq_true rfl) dX4_share_208 ⟨by rw [hR]; decide, by rw [hR]; decide⟩ (fun r_31 u_32 H locs hw hP hD hS => ?_)
                    have hP : va_P D vwCl [(h0, .inr (4, [.int ype, .int ytk, .ref ywi, .ref yki, .ref yse, .ref yno, .ref yrh, .ref yrw, .ref yrk, .ref yrt, .int yrp, .int yrq, .ref ytx, .int yle, .int yat, .int yfa, .ref yby, .ref ylo, .ref yhi, .int yac, .int ynx, .ref yro, .ref ygl, .int ysn, .ref yso, .ref ysp, .ref ysw, .long ysd, .ref yik, .ref ykp])), (yno, .inl (cI, 96, .inl gn)), (yki, .inl (cI, 5, .inl Fki)), (yby, .inl (cI, 5, .inl gb)), (ylo, .inl (cI, 5, .inl glo)), (yhi, .inl (cI, 5, .inl gh)), (ywi, .inl (cI, 5, .inl Fwi)), (ygl, .inl (cI, 64, .inl gg))] H := hP.sub [0, 1, 2, 3, 4, 5, 6, 7] rfl
                    have hD : va_D A [(h0, .inr (4, [.int ype, .int ytk, .ref ywi, .ref yki, .ref yse, .ref yno, .ref yrh, .ref yrw, .ref yrk, .ref yrt, .int yrp, .int yrq, .ref ytx, .int yle, .int yat, .int yfa, .ref yby, .ref ylo, .ref yhi, .int yac, .int ynx, .ref yro, .ref ygl, .int ysn, .ref yso, .ref ysp, .ref ysw, .long ysd, .ref yik, .ref ykp])), (yno, .inl (cI, 96, .inl gn)), (yki, .inl (cI, 5, .inl Fki)), (yby, .inl (cI, 5, .inl gb)), (ylo, .inl (cI, 5, .inl glo)), (yhi, .inl (cI, 5, .inl gh)), (ywi, .inl (cI, 5, .inl Fwi)), (ygl, .inl (cI, 64, .inl gg))] := hD.sub [0, 1, 2, 3, 4, 5, 6, 7] (by decide) rfl
                    refine W.widen (k := 0) (n := 0) (Nat.le_refl _) (Nat.le_refl _) ?_
                    have hw : 1 ≤ r_31.toInt ∧ r_31.toInt ≤ 5040 := hw
                    have hw_33 := hw
                    obtain ⟨hw_33a, hw_33b⟩ := hw_33
                    refine lv_iload hx hb dX4_share_211 (lv_at hl 0 rfl) ?_
                    refine lv_idiv hx hb dX4_share_213 (fun z0 => absurd (b_eq rfl (show (0 : Int32).toInt = 0 by decide) z0) (show r_27.toInt ≠ 0 by omega)) ?_
                    refine lv_topi (fun v_34 ev_34 => ?_)
                    exact ret_i (post := (fun (r : Int32) (u : (Nat → Int32) × (Nat → Int32) × (Nat → Int32) × (Nat → Int32) × (Nat → Int32)) => ByOk u.2.1)) (W1 := (fun u => [(h0, .inr (4, [.int ype, .int ytk, .ref ywi, .ref yki, .ref yse, .ref yno, .ref yrh, .ref yrw, .ref yrk, .ref yrt, .int yrp, .int yrq, .ref ytx, .int yle, .int yat, .int yfa, .ref yby, .ref ylo, .ref yhi, .int yac, .int ynx, .ref yro, .ref ygl, .int ysn, .ref yso, .ref ysp, .ref ysw, .long ysd, .ref yik, .ref ykp])), (yno, .inl (cI, 96, .inl u.1)), (yki, .inl (cI, 5, .inl Fki)), (yby, .inl (cI, 5, .inl u.2.1)), (ylo, .inl (cI, 5, .inl u.2.2.1)), (yhi, .inl (cI, 5, .inl u.2.2.2.1)), (ywi, .inl (cI, 5, .inl Fwi)), (ygl, .inl (cI, 64, .inl u.2.2.2.2))])) (gn, gb, glo, gh, gg) hx hb hr hlocks rfl hQ hK hP hD hS ⟨by decide, by decide⟩ dX4_share_214 hby
                  · have tc_30 := b_ne rfl (show (0 : Int32).toInt = 0 by decide) c_30
                    refine lv_iload hx hb dX4_share_198 (lv_at hl 6 rfl) ?_
                    refine lv_iload hx hb dX4_share_200 (lv_at hl 0 rfl) ?_
                    refine lv_idiv hx hb dX4_share_202 (fun z0 => absurd (b_eq rfl (show (0 : Int32).toInt = 0 by decide) z0) (show r_27.toInt ≠ 0 by omega)) ?_
                    refine lv_topi (fun v_35 ev_35 => ?_)
                    refine lv_goto (tgt := 214) hx hb dX4_share_203 (by decide) ?_
                    exact ret_i (post := (fun (r : Int32) (u : (Nat → Int32) × (Nat → Int32) × (Nat → Int32) × (Nat → Int32) × (Nat → Int32)) => ByOk u.2.1)) (W1 := (fun u => [(h0, .inr (4, [.int ype, .int ytk, .ref ywi, .ref yki, .ref yse, .ref yno, .ref yrh, .ref yrw, .ref yrk, .ref yrt, .int yrp, .int yrq, .ref ytx, .int yle, .int yat, .int yfa, .ref yby, .ref ylo, .ref yhi, .int yac, .int ynx, .ref yro, .ref ygl, .int ysn, .ref yso, .ref ysp, .ref ysw, .long ysd, .ref yik, .ref ykp])), (yno, .inl (cI, 96, .inl u.1)), (yki, .inl (cI, 5, .inl Fki)), (yby, .inl (cI, 5, .inl u.2.1)), (ylo, .inl (cI, 5, .inl u.2.2.1)), (yhi, .inl (cI, 5, .inl u.2.2.2.1)), (ywi, .inl (cI, 5, .inl Fwi)), (ygl, .inl (cI, 64, .inl u.2.2.2.2))])) (gn, gb, glo, gh, gg) hx hb hr hlocks rfl hQ hK hP hD hS ⟨by decide, by decide⟩ dX4_share_214 hby
                · have tc_23 := b_nlt rfl rfl c_23
                  refine lv_iload hx hb dX4_share_107 (lv_at hl 6 rfl) ?_
                  refine lv_iload_n hx hb dX4_share_109 rfl (lv_at hl 3 rfl) ?_
                  refine lv_iconst (v := (-1)) hx hb dX4_share_110 (by decide) ?_
                  refine lv_ixor hx hb dX4_share_111 ?_
                  refine lv_topi (fun v_36 ev_36 => ?_)
                  refine lv_iand hx hb dX4_share_112 ?_
                  refine lv_topi (fun v_37 ev_37 => ?_)
                  refine lv_if_ne (tgt := 176) hx hb dX4_share_113 (by decide) (fun c_38 => ?_) (fun c_38 => ?_)
                  · have tc_38 := b_ne rfl (show (0 : Int32).toInt = 0 by decide) c_38
                    obtain ⟨v_39, ev_39⟩ : ∃ z : Int32, z = z6 + 1 := ⟨_, rfl⟩
                    have tv_39 : v_39.toInt = z6.toInt + 1 := by rw [ev_39]; exact ti_add (x := z6) (y := 1) (show -2147483648 ≤ z6.toInt + 1 by omega) (show z6.toInt + 1 < 2147483648 by omega)
                    refine lv_iinc (v := v_39) (lv' := [(6, .int v_39), (0, .ref h0), (1, .int n), (2, .int z), (3, .int v_14), (4, .int r_15), (5, .int w5)]) hx hb dX4_share_176 hl (k := 6) rfl (by rw [ev_39]; rfl) (by decide) rfl (fun ls hl => ?_)
                    refine lv_goto (tgt := 101) hx hb dX4_share_179 (by decide) ?_
                    exact ih_22 w5 v_39 _ _ _ (show (64 - v_39.toInt).toNat < fu_21 by omega) (show 0 ≤ v_39.toInt ∧ v_39.toInt ≤ 64 by omega) hP hD hS (lv_sub hl [1, 2, 3, 4, 5, 6, 0] rfl)
                  · have tc_38 := b_eq rfl (show (0 : Int32).toInt = 0 by decide) c_38
                    refine lv_iload hx hb dX4_share_116 (lv_at hl 6 rfl) ?_
                    refine lv_iload_n hx hb dX4_share_118 rfl (lv_at hl 1 rfl) ?_
                    refine cS_i (As := [.int z6, .int n]) (rest := []) ⟨hx, hb, hml, hown, hts⟩ (c_X4_has l D cI cZ cM z6 n _ ) (va_cwS 2 hts gX4_share_X4_has rfl rfl rfl (by decide +kernel) ⟨by rw [hR]; decide, by rw [hR]; decide⟩) hK hP hD hS hA [] [0, 1, 2, 3, 4, 5, 6, 7] rfl rfl (by decide) (by decide) (by decide) hl.1 rfl rfl (Nat.le_of_ble_eq_true rfl) dX4_share_119 ⟨by rw [hR]; decide, by rw [hR]; decide⟩ (fun r_40 u_41 H locs hw hP hD hS => ?_)
                    have hP : va_P D vwCl [(h0, .inr (4, [.int ype, .int ytk, .ref ywi, .ref yki, .ref yse, .ref yno, .ref yrh, .ref yrw, .ref yrk, .ref yrt, .int yrp, .int yrq, .ref ytx, .int yle, .int yat, .int yfa, .ref yby, .ref ylo, .ref yhi, .int yac, .int ynx, .ref yro, .ref ygl, .int ysn, .ref yso, .ref ysp, .ref ysw, .long ysd, .ref yik, .ref ykp])), (yno, .inl (cI, 96, .inl gn)), (yki, .inl (cI, 5, .inl Fki)), (yby, .inl (cI, 5, .inl gb)), (ylo, .inl (cI, 5, .inl glo)), (yhi, .inl (cI, 5, .inl gh)), (ywi, .inl (cI, 5, .inl Fwi)), (ygl, .inl (cI, 64, .inl gg))] H := hP.sub [0, 1, 2, 3, 4, 5, 6, 7] rfl
                    have hD : va_D A [(h0, .inr (4, [.int ype, .int ytk, .ref ywi, .ref yki, .ref yse, .ref yno, .ref yrh, .ref yrw, .ref yrk, .ref yrt, .int yrp, .int yrq, .ref ytx, .int yle, .int yat, .int yfa, .ref yby, .ref ylo, .ref yhi, .int yac, .int ynx, .ref yro, .ref ygl, .int ysn, .ref yso, .ref ysp, .ref ysw, .long ysd, .ref yik, .ref ykp])), (yno, .inl (cI, 96, .inl gn)), (yki, .inl (cI, 5, .inl Fki)), (yby, .inl (cI, 5, .inl gb)), (ylo, .inl (cI, 5, .inl glo)), (yhi, .inl (cI, 5, .inl gh)), (ywi, .inl (cI, 5, .inl Fwi)), (ygl, .inl (cI, 64, .inl gg))] := hD.sub [0, 1, 2, 3, 4, 5, 6, 7] (by decide) rfl
                    refine W.widen (k := 0) (n := 0) (Nat.le_refl _) (Nat.le_refl _) ?_
                    have hw : (r_40.toInt = 1 ∧ bitOf z6 n = 1) ∨ r_40.toInt = 0 := hw
                    have hw_42 := hw
                    refine lv_if_ne (tgt := 176) hx hb dX4_share_122 (by decide) (fun c_43 => ?_) (fun c_43 => ?_)
                    · have tc_43 := b_ne rfl (show (0 : Int32).toInt = 0 by decide) c_43
                      obtain ⟨v_44, ev_44⟩ : ∃ z : Int32, z = z6 + 1 := ⟨_, rfl⟩
                      have tv_44 : v_44.toInt = z6.toInt + 1 := by rw [ev_44]; exact ti_add (x := z6) (y := 1) (show -2147483648 ≤ z6.toInt + 1 by omega) (show z6.toInt + 1 < 2147483648 by omega)
                      refine lv_iinc (v := v_44) (lv' := [(6, .int v_44), (0, .ref h0), (1, .int n), (2, .int z), (3, .int v_14), (4, .int r_15), (5, .int w5)]) hx hb dX4_share_176 hl (k := 6) rfl (by rw [ev_44]; rfl) (by decide) rfl (fun ls hl => ?_)
                      refine lv_goto (tgt := 101) hx hb dX4_share_179 (by decide) ?_
                      exact ih_22 w5 v_44 _ _ _ (show (64 - v_44.toInt).toNat < fu_21 by omega) (show 0 ≤ v_44.toInt ∧ v_44.toInt ≤ 64 by omega) hP hD hS (lv_sub hl [1, 2, 3, 4, 5, 6, 0] rfl)
                    · have tc_43 := b_eq rfl (show (0 : Int32).toInt = 0 by decide) c_43
                      refine lv_iload hx hb dX4_share_125 (lv_at hl 6 rfl) ?_
                      refine cS_i (As := [.int z6]) (rest := []) ⟨hx, hb, hml, hown, hts⟩ (c_X4_ones l D cI cZ cM z6 _ ) (va_cwS 1 hts gX4_share_X4_ones rfl rfl rfl (by decide +kernel) ⟨by rw [hR]; decide, by rw [hR]; decide⟩) hK hP hD hS hA [] [0, 1, 2, 3, 4, 5, 6, 7] rfl rfl (by decide) (by decide) (by decide) hl.1 rfl rfl (Nat.le_of_ble_eq_true rfl) dX4_share_127 ⟨by rw [hR]; decide, by rw [hR]; decide⟩ (fun r_45 u_46 H locs hw hP hD hS => ?_)
                      have hP : va_P D vwCl [(h0, .inr (4, [.int ype, .int ytk, .ref ywi, .ref yki, .ref yse, .ref yno, .ref yrh, .ref yrw, .ref yrk, .ref yrt, .int yrp, .int yrq, .ref ytx, .int yle, .int yat, .int yfa, .ref yby, .ref ylo, .ref yhi, .int yac, .int ynx, .ref yro, .ref ygl, .int ysn, .ref yso, .ref ysp, .ref ysw, .long ysd, .ref yik, .ref ykp])), (yno, .inl (cI, 96, .inl gn)), (yki, .inl (cI, 5, .inl Fki)), (yby, .inl (cI, 5, .inl gb)), (ylo, .inl (cI, 5, .inl glo)), (yhi, .inl (cI, 5, .inl gh)), (ywi, .inl (cI, 5, .inl Fwi)), (ygl, .inl (cI, 64, .inl gg))] H := hP.sub [0, 1, 2, 3, 4, 5, 6, 7] rfl
                      have hD : va_D A [(h0, .inr (4, [.int ype, .int ytk, .ref ywi, .ref yki, .ref yse, .ref yno, .ref yrh, .ref yrw, .ref yrk, .ref yrt, .int yrp, .int yrq, .ref ytx, .int yle, .int yat, .int yfa, .ref yby, .ref ylo, .ref yhi, .int yac, .int ynx, .ref yro, .ref ygl, .int ysn, .ref yso, .ref ysp, .ref ysw, .long ysd, .ref yik, .ref ykp])), (yno, .inl (cI, 96, .inl gn)), (yki, .inl (cI, 5, .inl Fki)), (yby, .inl (cI, 5, .inl gb)), (ylo, .inl (cI, 5, .inl glo)), (yhi, .inl (cI, 5, .inl gh)), (ywi, .inl (cI, 5, .inl Fwi)), (ygl, .inl (cI, 64, .inl gg))] := hD.sub [0, 1, 2, 3, 4, 5, 6, 7] (by decide) rfl
                      refine W.widen (k := 0) (n := 0) (Nat.le_refl _) (Nat.le_refl _) ?_
                      have hw : 0 ≤ r_45.toInt ∧ r_45.toInt ≤ 7 := hw
                      have hw_47 := hw
                      obtain ⟨hw_47a, hw_47b⟩ := hw_47
                      refine cS_i (As := [.int r_45]) (rest := []) ⟨hx, hb, hml, hown, hts⟩ (c_X4_factorial l D cI cZ cM r_45 _ (show -100 ≤ r_45.toInt ∧ r_45.toInt ≤ 7 by omega)) (va_cwS 1 hts gX4_share_X4_factorial rfl rfl rfl (by decide +kernel) ⟨by rw [hR]; decide, by rw [hR]; decide⟩) hK hP hD hS hA [] [0, 1, 2, 3, 4, 5, 6, 7] rfl rfl (by decide) (by decide) (by decide) hl.1 rfl rfl (Nat.le_of_ble_eq_true rfl) dX4_share_130 ⟨by rw [hR]; decide, by rw [hR]; decide⟩ (fun r_48 u_49 H locs hw hP hD hS => ?_)
                      have hP : va_P D vwCl [(h0, .inr (4, [.int ype, .int ytk, .ref ywi, .ref yki, .ref yse, .ref yno, .ref yrh, .ref yrw, .ref yrk, .ref yrt, .int yrp, .int yrq, .ref ytx, .int yle, .int yat, .int yfa, .ref yby, .ref ylo, .ref yhi, .int yac, .int ynx, .ref yro, .ref ygl, .int ysn, .ref yso, .ref ysp, .ref ysw, .long ysd, .ref yik, .ref ykp])), (yno, .inl (cI, 96, .inl gn)), (yki, .inl (cI, 5, .inl Fki)), (yby, .inl (cI, 5, .inl gb)), (ylo, .inl (cI, 5, .inl glo)), (yhi, .inl (cI, 5, .inl gh)), (ywi, .inl (cI, 5, .inl Fwi)), (ygl, .inl (cI, 64, .inl gg))] H := hP.sub [0, 1, 2, 3, 4, 5, 6, 7] rfl
                      have hD : va_D A [(h0, .inr (4, [.int ype, .int ytk, .ref ywi, .ref yki, .ref yse, .ref yno, .ref yrh, .ref yrw, .ref yrk, .ref yrt, .int yrp, .int yrq, .ref ytx, .int yle, .int yat, .int yfa, .ref yby, .ref ylo, .ref yhi, .int yac, .int ynx, .ref yro, .ref ygl, .int ysn, .ref yso, .ref ysp, .ref ysw, .long ysd, .ref yik, .ref ykp])), (yno, .inl (cI, 96, .inl gn)), (yki, .inl (cI, 5, .inl Fki)), (yby, .inl (cI, 5, .inl gb)), (ylo, .inl (cI, 5, .inl glo)), (yhi, .inl (cI, 5, .inl gh)), (ywi, .inl (cI, 5, .inl Fwi)), (ygl, .inl (cI, 64, .inl gg))] := hD.sub [0, 1, 2, 3, 4, 5, 6, 7] (by decide) rfl
                      refine W.widen (k := 0) (n := 0) (Nat.le_refl _) (Nat.le_refl _) ?_
                      have hw : 1 ≤ r_48.toInt ∧ r_48.toInt ≤ 5040 := hw
                      have hw_50 := hw
                      obtain ⟨hw_50a, hw_50b⟩ := hw_50
                      refine lv_iload hx hb dX4_share_133 (lv_at hl 4 rfl) ?_
                      refine lv_iconst (v := 1) hx hb dX4_share_135 (by decide) ?_
                      refine lv_isub hx hb dX4_share_136 ?_
                      refine lv_topi (fun v_51 ev_51 => ?_)
                      have tv_51 : v_51.toInt = r_15.toInt - (1 : Int) := by rw [ev_51]; exact ti_sub (x := r_15) (y := 1) (show -2147483648 ≤ r_15.toInt - (1 : Int) by omega) (show r_15.toInt - (1 : Int) < 2147483648 by omega)
                      refine lv_iload hx hb dX4_share_137 (lv_at hl 6 rfl) ?_
                      refine cS_i (As := [.int z6]) (rest := [.int v_51, .int r_48]) ⟨hx, hb, hml, hown, hts⟩ (c_X4_ones l D cI cZ cM z6 _ ) (va_cwS 1 hts gX4_share_X4_ones rfl rfl rfl (by decide +kernel) ⟨by rw [hR]; decide, by rw [hR]; decide⟩) hK hP hD hS hA [] [0, 1, 2, 3, 4, 5, 6, 7] rfl rfl (by decide) (by decide) (by decide) hl.1 rfl rfl (Nat.le_of_ble_eq_true rfl) dX4_share_139 ⟨by rw [hR]; decide, by rw [hR]; decide⟩ (fun r_52 u_53 H locs hw hP hD hS => ?_)
                      have hP : va_P D vwCl [(h0, .inr (4, [.int ype, .int ytk, .ref ywi, .ref yki, .ref yse, .ref yno, .ref yrh, .ref yrw, .ref yrk, .ref yrt, .int yrp, .int yrq, .ref ytx, .int yle, .int yat, .int yfa, .ref yby, .ref ylo, .ref yhi, .int yac, .int ynx, .ref yro, .ref ygl, .int ysn, .ref yso, .ref ysp, .ref ysw, .long ysd, .ref yik, .ref ykp])), (yno, .inl (cI, 96, .inl gn)), (yki, .inl (cI, 5, .inl Fki)), (yby, .inl (cI, 5, .inl gb)), (ylo, .inl (cI, 5, .inl glo)), (yhi, .inl (cI, 5, .inl gh)), (ywi, .inl (cI, 5, .inl Fwi)), (ygl, .inl (cI, 64, .inl gg))] H := hP.sub [0, 1, 2, 3, 4, 5, 6, 7] rfl
                      have hD : va_D A [(h0, .inr (4, [.int ype, .int ytk, .ref ywi, .ref yki, .ref yse, .ref yno, .ref yrh, .ref yrw, .ref yrk, .ref yrt, .int yrp, .int yrq, .ref ytx, .int yle, .int yat, .int yfa, .ref yby, .ref ylo, .ref yhi, .int yac, .int ynx, .ref yro, .ref ygl, .int ysn, .ref yso, .ref ysp, .ref ysw, .long ysd, .ref yik, .ref ykp])), (yno, .inl (cI, 96, .inl gn)), (yki, .inl (cI, 5, .inl Fki)), (yby, .inl (cI, 5, .inl gb)), (ylo, .inl (cI, 5, .inl glo)), (yhi, .inl (cI, 5, .inl gh)), (ywi, .inl (cI, 5, .inl Fwi)), (ygl, .inl (cI, 64, .inl gg))] := hD.sub [0, 1, 2, 3, 4, 5, 6, 7] (by decide) rfl
                      refine W.widen (k := 0) (n := 0) (Nat.le_refl _) (Nat.le_refl _) ?_
                      have hw : 0 ≤ r_52.toInt ∧ r_52.toInt ≤ 7 := hw
                      have hw_54 := hw
                      obtain ⟨hw_54a, hw_54b⟩ := hw_54
                      refine lv_isub hx hb dX4_share_142 ?_
                      refine lv_topi (fun v_55 ev_55 => ?_)
                      have tv_55 : v_55.toInt = v_51.toInt - r_52.toInt := by rw [ev_55]; exact ti_sub (x := v_51) (y := r_52) (show -2147483648 ≤ v_51.toInt - r_52.toInt by omega) (show v_51.toInt - r_52.toInt < 2147483648 by omega)
                      refine cS_i (As := [.int v_55]) (rest := [.int r_48]) ⟨hx, hb, hml, hown, hts⟩ (c_X4_factorial l D cI cZ cM v_55 _ (show -100 ≤ v_55.toInt ∧ v_55.toInt ≤ 7 by omega)) (va_cwS 1 hts gX4_share_X4_factorial rfl rfl rfl (by decide +kernel) ⟨by rw [hR]; decide, by rw [hR]; decide⟩) hK hP hD hS hA [] [0, 1, 2, 3, 4, 5, 6, 7] rfl rfl (by decide) (by decide) (by decide) hl.1 rfl rfl (Nat.le_of_ble_eq_true rfl) dX4_share_143 ⟨by rw [hR]; decide, by rw [hR]; decide⟩ (fun r_56 u_57 H locs hw hP hD hS => ?_)
                      have hP : va_P D vwCl [(h0, .inr (4, [.int ype, .int ytk, .ref ywi, .ref yki, .ref yse, .ref yno, .ref yrh, .ref yrw, .ref yrk, .ref yrt, .int yrp, .int yrq, .ref ytx, .int yle, .int yat, .int yfa, .ref yby, .ref ylo, .ref yhi, .int yac, .int ynx, .ref yro, .ref ygl, .int ysn, .ref yso, .ref ysp, .ref ysw, .long ysd, .ref yik, .ref ykp])), (yno, .inl (cI, 96, .inl gn)), (yki, .inl (cI, 5, .inl Fki)), (yby, .inl (cI, 5, .inl gb)), (ylo, .inl (cI, 5, .inl glo)), (yhi, .inl (cI, 5, .inl gh)), (ywi, .inl (cI, 5, .inl Fwi)), (ygl, .inl (cI, 64, .inl gg))] H := hP.sub [0, 1, 2, 3, 4, 5, 6, 7] rfl
                      have hD : va_D A [(h0, .inr (4, [.int ype, .int ytk, .ref ywi, .ref yki, .ref yse, .ref yno, .ref yrh, .ref yrw, .ref yrk, .ref yrt, .int yrp, .int yrq, .ref ytx, .int yle, .int yat, .int yfa, .ref yby, .ref ylo, .ref yhi, .int yac, .int ynx, .ref yro, .ref ygl, .int ysn, .ref yso, .ref ysp, .ref ysw, .long ysd, .ref yik, .ref ykp])), (yno, .inl (cI, 96, .inl gn)), (yki, .inl (cI, 5, .inl Fki)), (yby, .inl (cI, 5, .inl gb)), (ylo, .inl (cI, 5, .inl glo)), (yhi, .inl (cI, 5, .inl gh)), (ywi, .inl (cI, 5, .inl Fwi)), (ygl, .inl (cI, 64, .inl gg))] := hD.sub [0, 1, 2, 3, 4, 5, 6, 7] (by decide) rfl
                      refine W.widen (k := 0) (n := 0) (Nat.le_refl _) (Nat.le_refl _) ?_
                      have hw : 1 ≤ r_56.toInt ∧ r_56.toInt ≤ 5040 := hw
                      have hw_58 := hw
                      obtain ⟨hw_58a, hw_58b⟩ := hw_58
                      refine lv_imul hx hb dX4_share_146 ?_
                      refine lv_topi (fun v_59 ev_59 => ?_)
                      refine lv_istore (lv' := [(7, .int v_59), (0, .ref h0), (1, .int n), (2, .int z), (3, .int v_14), (4, .int r_15), (5, .int w5), (6, .int z6)]) hx hb dX4_share_147 hl (by decide) rfl (fun ls hl => ?_)
                      refine lv_iload hx hb dX4_share_149 (lv_at hl 6 rfl) ?_
                      refine lv_iload hx hb dX4_share_151 (lv_at hl 0 rfl) ?_
                      refine lv_aload_n hx hb dX4_share_153 rfl (lv_at hl 1 rfl) ?_
                      refine va_get (D := D) (ci := 4) (v := .ref ygl) (C := RX4) (T := TX4) (N := 30) hx hb hts iX4 hown hK hP 0 rfl rfl 22 (by decide) (hts (.fieldLink RX4 49 "PunchedTicketModel" "glads" "[I") (List.mem_of_getElem? (i := 2) rfl)) (fun _ h9 => h9) rfl dX4_share_154 ?_
                      refine lv_iload hx hb dX4_share_157 (lv_at hl 7 rfl) ?_
                      refine lv_iconst (v := 1) hx hb dX4_share_159 (by decide) ?_
                      refine lv_iload_n hx hb dX4_share_160 rfl (lv_at hl 2 rfl) ?_
                      refine lv_ishl hx hb dX4_share_161 ?_
                      refine lv_topi (fun v_60 ev_60 => ?_)
                      obtain ⟨hv_60a, hv_60b⟩ := sh1_32 (show 0 ≤ n.toInt by omega) (by omega) ev_60
                      refine lv_ior hx hb dX4_share_162 ?_
                      refine lv_topi (fun v_61 ev_61 => ?_)
                      obtain ⟨hv_61a, hv_61b⟩ := or_63 (show 0 ≤ z6.toInt by omega) (by omega) (show 0 ≤ v_60.toInt by omega) (by omega) ev_61
                      refine va_iald hx hb hK hP 7 0 rfl rfl (vp_in_iff.mpr ⟨by omega, by omega⟩) dX4_share_163 ?_
                      refine lv_topi (fun v_62 ev_62 => ?_)
                      refine lv_aload_n hx hb dX4_share_164 rfl (lv_at hl 1 rfl) ?_
                      refine va_get (D := D) (ci := 4) (v := .ref ygl) (C := RX4) (T := TX4) (N := 30) hx hb hts iX4 hown hK hP 0 rfl rfl 22 (by decide) (hts (.fieldLink RX4 49 "PunchedTicketModel" "glads" "[I") (List.mem_of_getElem? (i := 2) rfl)) (fun _ h9 => h9) rfl dX4_share_165 ?_
                      refine lv_iload hx hb dX4_share_168 (lv_at hl 7 rfl) ?_
                      refine va_iald hx hb hK hP 7 0 rfl rfl (vp_in_iff.mpr ⟨by omega, by omega⟩) dX4_share_170 ?_
                      refine lv_topi (fun v_63 ev_63 => ?_)
                      refine lv_isub hx hb dX4_share_171 ?_
                      refine lv_topi (fun v_64 ev_64 => ?_)
                      refine lv_imul hx hb dX4_share_172 ?_
                      refine lv_topi (fun v_65 ev_65 => ?_)
                      refine lv_iadd hx hb dX4_share_173 ?_
                      refine lv_topi (fun v_66 ev_66 => ?_)
                      refine lv_istore (lv' := [(5, .int v_66), (7, .int v_59), (0, .ref h0), (1, .int n), (2, .int z), (3, .int v_14), (4, .int r_15), (6, .int z6)]) hx hb dX4_share_174 hl (by decide) rfl (fun ls hl => ?_)
                      obtain ⟨v_67, ev_67⟩ : ∃ z : Int32, z = z6 + 1 := ⟨_, rfl⟩
                      have tv_67 : v_67.toInt = z6.toInt + 1 := by rw [ev_67]; exact ti_add (x := z6) (y := 1) (show -2147483648 ≤ z6.toInt + 1 by omega) (show z6.toInt + 1 < 2147483648 by omega)
                      refine lv_iinc (v := v_67) (lv' := [(6, .int v_67), (5, .int v_66), (7, .int v_59), (0, .ref h0), (1, .int n), (2, .int z), (3, .int v_14), (4, .int r_15)]) hx hb dX4_share_176 hl (k := 7) rfl (by rw [ev_67]; rfl) (by decide) rfl (fun ls hl => ?_)
                      refine lv_goto (tgt := 101) hx hb dX4_share_179 (by decide) ?_
                      exact ih_22 v_66 v_67 _ _ _ (show (64 - v_67.toInt).toNat < fu_21 by omega) (show 0 ≤ v_67.toInt ∧ v_67.toInt ≤ 64 by omega) hP hD hS (lv_sub hl [3, 4, 5, 6, 7, 1, 0] rfl)
            exact LOOP_21 _ 0 0 _ _ _ (Nat.lt_succ_self _) (by decide) hP hD hS (lv_sub hl [1, 2, 3, 4, 5, 6, 0] rfl)
          · have tc_20 := b_nlt rfl rfl c_20
            refine lv_aload_n hx hb dX4_share_62 rfl (lv_at hl 0 rfl) ?_
            refine va_get (D := D) (ci := 4) (v := .ref ygl) (C := RX4) (T := TX4) (N := 30) hx hb hts iX4 hown hK hP 0 rfl rfl 22 (by decide) (hts (.fieldLink RX4 49 "PunchedTicketModel" "glads" "[I") (List.mem_of_getElem? (i := 2) rfl)) (fun _ h9 => h9) rfl dX4_share_63 ?_
            refine lv_iload hx hb dX4_share_66 (lv_at hl 6 rfl) ?_
            refine lv_iload hx hb dX4_share_68 (lv_at hl 6 rfl) ?_
            refine lv_iload_n hx hb dX4_share_70 rfl (lv_at hl 3 rfl) ?_
            refine lv_iconst (v := (-1)) hx hb dX4_share_71 (by decide) ?_
            refine lv_ixor hx hb dX4_share_72 ?_
            refine lv_topi (fun v_68 ev_68 => ?_)
            refine lv_iand hx hb dX4_share_73 ?_
            refine lv_topi (fun v_69 ev_69 => ?_)
            refine lv_if_ne (tgt := 90) hx hb dX4_share_74 (by decide) (fun c_70 => ?_) (fun c_70 => ?_)
            · have tc_70 := b_ne rfl (show (0 : Int32).toInt = 0 by decide) c_70
              refine lv_iconst (v := 0) hx hb dX4_share_90 (by decide) ?_
              refine va_iast hx hb hK hP hD hS 7 0 rfl rfl (vp_in_iff.mpr ⟨by omega, by omega⟩) dX4_share_91 (fun H locs hP hD hS => ?_)
              obtain ⟨f_71, ef_71⟩ : ∃ g : Nat → Int32, upd gg (x6 : Int32).toNatClampNeg 0 = g := ⟨_, rfl⟩
              rw [ef_71] at hP hD
              have hP : va_P D vwCl [(h0, .inr (4, [.int ype, .int ytk, .ref ywi, .ref yki, .ref yse, .ref yno, .ref yrh, .ref yrw, .ref yrk, .ref yrt, .int yrp, .int yrq, .ref ytx, .int yle, .int yat, .int yfa, .ref yby, .ref ylo, .ref yhi, .int yac, .int ynx, .ref yro, .ref ygl, .int ysn, .ref yso, .ref ysp, .ref ysw, .long ysd, .ref yik, .ref ykp])), (yno, .inl (cI, 96, .inl gn)), (yki, .inl (cI, 5, .inl Fki)), (yby, .inl (cI, 5, .inl gb)), (ylo, .inl (cI, 5, .inl glo)), (yhi, .inl (cI, 5, .inl gh)), (ywi, .inl (cI, 5, .inl Fwi)), (ygl, .inl (cI, 64, .inl f_71))] H := hP
              have hD : va_D A [(h0, .inr (4, [.int ype, .int ytk, .ref ywi, .ref yki, .ref yse, .ref yno, .ref yrh, .ref yrw, .ref yrk, .ref yrt, .int yrp, .int yrq, .ref ytx, .int yle, .int yat, .int yfa, .ref yby, .ref ylo, .ref yhi, .int yac, .int ynx, .ref yro, .ref ygl, .int ysn, .ref yso, .ref ysp, .ref ysw, .long ysd, .ref yik, .ref ykp])), (yno, .inl (cI, 96, .inl gn)), (yki, .inl (cI, 5, .inl Fki)), (yby, .inl (cI, 5, .inl gb)), (ylo, .inl (cI, 5, .inl glo)), (yhi, .inl (cI, 5, .inl gh)), (ywi, .inl (cI, 5, .inl Fwi)), (ygl, .inl (cI, 64, .inl f_71))] := hD
              obtain ⟨v_72, ev_72⟩ : ∃ z : Int32, z = x6 + 1 := ⟨_, rfl⟩
              have tv_72 : v_72.toInt = x6.toInt + 1 := by rw [ev_72]; exact ti_add (x := x6) (y := 1) (show -2147483648 ≤ x6.toInt + 1 by omega) (show x6.toInt + 1 < 2147483648 by omega)
              refine lv_iinc (v := v_72) (lv' := [(6, .int v_72), (0, .ref h0), (1, .int n), (2, .int z), (3, .int v_14), (4, .int r_15), (5, .int 0)]) hx hb dX4_share_92 hl (k := 6) rfl (by rw [ev_72]; rfl) (by decide) rfl (fun ls hl => ?_)
              refine lv_goto (tgt := 56) hx hb dX4_share_95 (by decide) ?_
              exact ih_19 v_72 gn gb glo gh f_71 _ _ _ (show (64 - v_72.toInt).toNat < fu_18 by omega) (show 0 ≤ v_72.toInt ∧ v_72.toInt ≤ 64 by omega) (hby) hP hD hS (lv_sub hl [1, 2, 3, 4, 5, 6, 0] rfl)
            · have tc_70 := b_eq rfl (show (0 : Int32).toInt = 0 by decide) c_70
              refine lv_aload_n hx hb dX4_share_77 rfl (lv_at hl 0 rfl) ?_
              refine lv_iload_n hx hb dX4_share_78 rfl (lv_at hl 3 rfl) ?_
              refine lv_iload hx hb dX4_share_79 (lv_at hl 6 rfl) ?_
              refine lv_iconst (v := (-1)) hx hb dX4_share_81 (by decide) ?_
              refine lv_ixor hx hb dX4_share_82 ?_
              refine lv_topi (fun v_73 ev_73 => ?_)
              refine lv_iand hx hb dX4_share_83 ?_
              refine lv_topi (fun v_74 ev_74 => ?_)
              refine cV_i (As := [.int v_74]) (rest := [.int x6, .ref ygl]) ⟨hx, hb, hml, hown, hts⟩ (c_X4_gladWithout l D cI cZ cM h0 v_74 ype ytk ywi yki yse yno yrh yrw yrk yrt yrp yrq ytx yle yat yfa yby ylo yhi yac ynx yro ygl ysn yso ysp ysw ysd yik ykp gn Fki gb glo gh Fwi _ hby (show 0 ≤ ype.toInt ∧ ype.toInt ≤ 5 by omega) (show 0 ≤ ytk.toInt ∧ ytk.toInt ≤ 6 by omega)) (cwV 1 hts gX4_share_X4_gladWithout rfl rfl rfl (by decide +kernel) ⟨by rw [hR]; decide, by rw [hR]; decide⟩) hK hP hD hS hA [0, 1, 2, 3, 4, 5, 6] [7] rfl rfl (by decide) (by decide) (by decide) rfl 0 rfl hl.1 rfl rfl (Nat.le_of_ble_eq_true rfl) dX4_share_84 ⟨by rw [hR]; decide, by rw [hR]; decide⟩ (fun r_79 u_80 H locs hw hP hD hS => ?_)
              obtain ⟨Gno_75, Gby_76, Glo_77, Ghi_78⟩ := u_80
              have hP : va_P D vwCl [(h0, .inr (4, [.int ype, .int ytk, .ref ywi, .ref yki, .ref yse, .ref yno, .ref yrh, .ref yrw, .ref yrk, .ref yrt, .int yrp, .int yrq, .ref ytx, .int yle, .int yat, .int yfa, .ref yby, .ref ylo, .ref yhi, .int yac, .int ynx, .ref yro, .ref ygl, .int ysn, .ref yso, .ref ysp, .ref ysw, .long ysd, .ref yik, .ref ykp])), (yno, .inl (cI, 96, .inl Gno_75)), (yki, .inl (cI, 5, .inl Fki)), (yby, .inl (cI, 5, .inl Gby_76)), (ylo, .inl (cI, 5, .inl Glo_77)), (yhi, .inl (cI, 5, .inl Ghi_78)), (ywi, .inl (cI, 5, .inl Fwi)), (ygl, .inl (cI, 64, .inl gg))] H := hP.sub [1, 2, 3, 4, 5, 6, 7, 0] rfl
              have hD : va_D A [(h0, .inr (4, [.int ype, .int ytk, .ref ywi, .ref yki, .ref yse, .ref yno, .ref yrh, .ref yrw, .ref yrk, .ref yrt, .int yrp, .int yrq, .ref ytx, .int yle, .int yat, .int yfa, .ref yby, .ref ylo, .ref yhi, .int yac, .int ynx, .ref yro, .ref ygl, .int ysn, .ref yso, .ref ysp, .ref ysw, .long ysd, .ref yik, .ref ykp])), (yno, .inl (cI, 96, .inl Gno_75)), (yki, .inl (cI, 5, .inl Fki)), (yby, .inl (cI, 5, .inl Gby_76)), (ylo, .inl (cI, 5, .inl Glo_77)), (yhi, .inl (cI, 5, .inl Ghi_78)), (ywi, .inl (cI, 5, .inl Fwi)), (ygl, .inl (cI, 64, .inl gg))] := hD.sub [1, 2, 3, 4, 5, 6, 7, 0] (by decide) rfl
              refine W.widen (k := 0) (n := 0) (Nat.le_refl _) (Nat.le_refl _) ?_
              have hw : ByOk Gby_76 := hw
              have hw_81 := hw
              have PBY := hw_81
              refine lv_goto (tgt := 91) hx hb dX4_share_87 (by decide) ?_
              refine va_iast hx hb hK hP hD hS 7 0 rfl rfl (vp_in_iff.mpr ⟨by omega, by omega⟩) dX4_share_91 (fun H locs hP hD hS => ?_)
              obtain ⟨f_82, ef_82⟩ : ∃ g : Nat → Int32, upd gg (x6 : Int32).toNatClampNeg r_79 = g := ⟨_, rfl⟩
              rw [ef_82] at hP hD
              have hP : va_P D vwCl [(h0, .inr (4, [.int ype, .int ytk, .ref ywi, .ref yki, .ref yse, .ref yno, .ref yrh, .ref yrw, .ref yrk, .ref yrt, .int yrp, .int yrq, .ref ytx, .int yle, .int yat, .int yfa, .ref yby, .ref ylo, .ref yhi, .int yac, .int ynx, .ref yro, .ref ygl, .int ysn, .ref yso, .ref ysp, .ref ysw, .long ysd, .ref yik, .ref ykp])), (yno, .inl (cI, 96, .inl Gno_75)), (yki, .inl (cI, 5, .inl Fki)), (yby, .inl (cI, 5, .inl Gby_76)), (ylo, .inl (cI, 5, .inl Glo_77)), (yhi, .inl (cI, 5, .inl Ghi_78)), (ywi, .inl (cI, 5, .inl Fwi)), (ygl, .inl (cI, 64, .inl f_82))] H := hP
              have hD : va_D A [(h0, .inr (4, [.int ype, .int ytk, .ref ywi, .ref yki, .ref yse, .ref yno, .ref yrh, .ref yrw, .ref yrk, .ref yrt, .int yrp, .int yrq, .ref ytx, .int yle, .int yat, .int yfa, .ref yby, .ref ylo, .ref yhi, .int yac, .int ynx, .ref yro, .ref ygl, .int ysn, .ref yso, .ref ysp, .ref ysw, .long ysd, .ref yik, .ref ykp])), (yno, .inl (cI, 96, .inl Gno_75)), (yki, .inl (cI, 5, .inl Fki)), (yby, .inl (cI, 5, .inl Gby_76)), (ylo, .inl (cI, 5, .inl Glo_77)), (yhi, .inl (cI, 5, .inl Ghi_78)), (ywi, .inl (cI, 5, .inl Fwi)), (ygl, .inl (cI, 64, .inl f_82))] := hD
              obtain ⟨v_83, ev_83⟩ : ∃ z : Int32, z = x6 + 1 := ⟨_, rfl⟩
              have tv_83 : v_83.toInt = x6.toInt + 1 := by rw [ev_83]; exact ti_add (x := x6) (y := 1) (show -2147483648 ≤ x6.toInt + 1 by omega) (show x6.toInt + 1 < 2147483648 by omega)
              refine lv_iinc (v := v_83) (lv' := [(6, .int v_83), (0, .ref h0), (1, .int n), (2, .int z), (3, .int v_14), (4, .int r_15), (5, .int 0)]) hx hb dX4_share_92 hl (k := 6) rfl (by rw [ev_83]; rfl) (by decide) rfl (fun ls hl => ?_)
              refine lv_goto (tgt := 56) hx hb dX4_share_95 (by decide) ?_
              exact ih_19 v_83 Gno_75 Gby_76 Glo_77 Ghi_78 f_82 _ _ _ (show (64 - v_83.toInt).toNat < fu_18 by omega) (show 0 ≤ v_83.toInt ∧ v_83.toInt ≤ 64 by omega) (PBY) hP hD hS (lv_sub hl [1, 2, 3, 4, 5, 6, 0] rfl)
      exact LOOP_18 _ 0 Fno Fby Flo Fhi Fgl _ _ _ (Nat.lt_succ_self _) (by decide) (hBy) hP hD hS (lv_sub hl [4, 5, 6, 3, 2, 1, 0] rfl)
    · have tc_8 := b_ne rfl (show (0 : Int32).toInt = 0 by decide) c_8
      refine lv_iload_n hx hb dX4_share_18 rfl (lv_at hl 2 rfl) ?_
      refine lv_if_eq (tgt := 26) hx hb dX4_share_19 (by decide) (fun c_84 => ?_) (fun c_84 => ?_)
      · have tc_84 := b_eq rfl (show (0 : Int32).toInt = 0 by decide) c_84
        refine lv_iconst (v := 1) hx hb dX4_share_26 (by decide) ?_
        exact ret_i (post := (fun (r : Int32) (u : (Nat → Int32) × (Nat → Int32) × (Nat → Int32) × (Nat → Int32) × (Nat → Int32)) => ByOk u.2.1)) (W1 := (fun u => [(h0, .inr (4, [.int ype, .int ytk, .ref ywi, .ref yki, .ref yse, .ref yno, .ref yrh, .ref yrw, .ref yrk, .ref yrt, .int yrp, .int yrq, .ref ytx, .int yle, .int yat, .int yfa, .ref yby, .ref ylo, .ref yhi, .int yac, .int ynx, .ref yro, .ref ygl, .int ysn, .ref yso, .ref ysp, .ref ysw, .long ysd, .ref yik, .ref ykp])), (yno, .inl (cI, 96, .inl u.1)), (yki, .inl (cI, 5, .inl Fki)), (yby, .inl (cI, 5, .inl u.2.1)), (ylo, .inl (cI, 5, .inl u.2.2.1)), (yhi, .inl (cI, 5, .inl u.2.2.2.1)), (ywi, .inl (cI, 5, .inl Fwi)), (ygl, .inl (cI, 64, .inl u.2.2.2.2))])) (Fno, Fby, Flo, Fhi, Fgl) hx hb hr hlocks rfl hQ hK hP hD hS ⟨by decide, by decide⟩ dX4_share_27 hBy
      · have tc_84 := b_ne rfl (show (0 : Int32).toInt = 0 by decide) c_84
        refine lv_iconst (v := 0) hx hb dX4_share_22 (by decide) ?_
        refine lv_goto (tgt := 27) hx hb dX4_share_23 (by decide) ?_
        exact ret_i (post := (fun (r : Int32) (u : (Nat → Int32) × (Nat → Int32) × (Nat → Int32) × (Nat → Int32) × (Nat → Int32)) => ByOk u.2.1)) (W1 := (fun u => [(h0, .inr (4, [.int ype, .int ytk, .ref ywi, .ref yki, .ref yse, .ref yno, .ref yrh, .ref yrw, .ref yrk, .ref yrt, .int yrp, .int yrq, .ref ytx, .int yle, .int yat, .int yfa, .ref yby, .ref ylo, .ref yhi, .int yac, .int ynx, .ref yro, .ref ygl, .int ysn, .ref yso, .ref ysp, .ref ysw, .long ysd, .ref yik, .ref ykp])), (yno, .inl (cI, 96, .inl u.1)), (yki, .inl (cI, 5, .inl Fki)), (yby, .inl (cI, 5, .inl u.2.1)), (ylo, .inl (cI, 5, .inl u.2.2.1)), (yhi, .inl (cI, 5, .inl u.2.2.2.1)), (ywi, .inl (cI, 5, .inl Fwi)), (ygl, .inl (cI, 64, .inl u.2.2.2.2))])) (Fno, Fby, Flo, Fhi, Fgl) hx hb hr hlocks rfl hQ hK hP hD hS ⟨by decide, by decide⟩ dX4_share_27 hBy
  · have tc_4 := b_eq rfl (show (0 : Int32).toInt = 0 by decide) c_4
    refine lv_iconst (v := (-1)) hx hb dX4_share_8 (by decide) ?_
    exact ret_i (post := (fun (r : Int32) (u : (Nat → Int32) × (Nat → Int32) × (Nat → Int32) × (Nat → Int32) × (Nat → Int32)) => ByOk u.2.1)) (W1 := (fun u => [(h0, .inr (4, [.int ype, .int ytk, .ref ywi, .ref yki, .ref yse, .ref yno, .ref yrh, .ref yrw, .ref yrk, .ref yrt, .int yrp, .int yrq, .ref ytx, .int yle, .int yat, .int yfa, .ref yby, .ref ylo, .ref yhi, .int yac, .int ynx, .ref yro, .ref ygl, .int ysn, .ref yso, .ref ysp, .ref ysw, .long ysd, .ref yik, .ref ykp])), (yno, .inl (cI, 96, .inl u.1)), (yki, .inl (cI, 5, .inl Fki)), (yby, .inl (cI, 5, .inl u.2.1)), (ylo, .inl (cI, 5, .inl u.2.2.1)), (yhi, .inl (cI, 5, .inl u.2.2.2.1)), (ywi, .inl (cI, 5, .inl Fwi)), (ygl, .inl (cI, 64, .inl u.2.2.2.2))])) (Fno, Fby, Flo, Fhi, Fgl) hx hb hr hlocks rfl hQ hK hP hD hS ⟨by decide, by decide⟩ dX4_share_9 hBy
