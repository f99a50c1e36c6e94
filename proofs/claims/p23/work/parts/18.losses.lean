set_option maxRecDepth 20000 in
theorem ggX4_losses_X4_isPerson : GoodIn wsX4_losses wsX4_isPerson := goodIn_r _ [9, 10, 11, 12, 8, 13, 68, 69, 70, 71, 72, 73, 74, 75, 76, 77, 78, 79, 80, 81, 82, 83, 84, 85, 86, 87, 88, 89, 90, 91, 92, 93, 94, 95, 96, 97] rfl (by decide +kernel)
set_option maxRecDepth 20000 in
theorem gX4_losses_X4_isPerson : GoodIn wsX4_losses (wsV RX4 111 RX4 yX4_isPerson wsX4_isPerson) := goodIn_app (goodIn_r _ [5, 6, 7, 8] rfl (by decide +kernel)) ggX4_losses_X4_isPerson
set_option maxRecDepth 20000 in
theorem ggX4_losses_X4_in : GoodIn wsX4_losses wsX4_in := goodIn_r _ [13] rfl (by decide +kernel)
set_option maxRecDepth 20000 in
theorem gX4_losses_X4_in : GoodIn wsX4_losses (va_wsS RX4 74 yX4_in wsX4_in) := goodIn_app (goodIn_of _ (by decide +kernel)) ggX4_losses_X4_in
set_option maxRecDepth 20000 in
theorem ggX4_losses_X4_goneNow : GoodIn wsX4_losses wsX4_goneNow := goodIn_r _ [17, 3, 18, 19, 20, 8, 21, 4, 68, 69, 70, 71, 72, 73, 74, 75, 76, 77, 78, 79, 80, 81, 82, 83, 84, 85, 86, 87, 88, 89, 90, 91, 92, 93, 94, 95, 96, 97] rfl (by decide +kernel)
set_option maxRecDepth 20000 in
theorem gX4_losses_X4_goneNow : GoodIn wsX4_losses (wsV RX4 185 RX4 yX4_goneNow wsX4_goneNow) := goodIn_app (goodIn_r _ [14, 15, 16, 8] rfl (by decide +kernel)) ggX4_losses_X4_goneNow
set_option maxRecDepth 20000 in
theorem ggX4_losses_X4_has : GoodIn wsX4_losses wsX4_has := goodIn_r _ [24] rfl (by decide +kernel)
set_option maxRecDepth 20000 in
theorem gX4_losses_X4_has : GoodIn wsX4_losses (va_wsS RX4 129 yX4_has wsX4_has) := goodIn_app (goodIn_of _ (by decide +kernel)) ggX4_losses_X4_has
set_option maxRecDepth 20000 in
theorem ggX4_losses_X4_gladWithout : GoodIn wsX4_losses wsX4_gladWithout := goodIn_r _ [28, 3, 29, 30, 31, 8, 32, 4, 33, 34, 35, 36, 37, 38, 39, 40, 41, 42, 43, 44, 10, 45, 46, 47, 48, 49, 50, 51, 52, 53, 54, 55, 56, 57, 58, 59, 60, 61, 62, 63, 64, 68, 69, 70, 71, 72, 73, 74, 75, 76, 77, 78, 79, 80, 81, 82, 83, 84, 85, 86, 87, 88, 89, 90, 91, 92, 93, 94, 95, 96, 97] rfl (by decide +kernel)
set_option maxRecDepth 20000 in
theorem gX4_losses_X4_gladWithout : GoodIn wsX4_losses (wsV RX4 179 RX4 yX4_gladWithout wsX4_gladWithout) := goodIn_app (goodIn_r _ [25, 26, 27, 8] rfl (by decide +kernel)) ggX4_losses_X4_gladWithout
set_option maxRecDepth 20000 in
theorem ggX4_losses_X4_common : GoodIn wsX4_losses wsX4_common := goodIn_r _ [67] rfl (by decide +kernel)
set_option maxRecDepth 20000 in
theorem gX4_losses_X4_common : GoodIn wsX4_losses (va_wsS RX4 191 yX4_common wsX4_common) := goodIn_app (goodIn_of _ (by decide +kernel)) ggX4_losses_X4_common
theorem dX4_losses_0 : decode cX4_losses 0 = .ok (.aload_n 0, 1) := by decide +kernel
theorem dX4_losses_1 : decode cX4_losses 1 = .ok (.iload_n 1, 1) := by decide +kernel
theorem dX4_losses_2 : decode cX4_losses 2 = .ok (.invokevirtual 111, 3) := by decide +kernel
theorem dX4_losses_5 : decode cX4_losses 5 = .ok (.ifCond .ne 5, 3) := by decide +kernel
theorem dX4_losses_8 : decode cX4_losses 8 = .ok (.iconst (-1), 1) := by decide +kernel
theorem dX4_losses_9 : decode cX4_losses 9 = .ok (.ireturn, 1) := by decide +kernel
theorem dX4_losses_10 : decode cX4_losses 10 = .ok (.iload_n 2, 1) := by decide +kernel
theorem dX4_losses_11 : decode cX4_losses 11 = .ok (.i2l, 1) := by decide +kernel
theorem dX4_losses_12 : decode cX4_losses 12 = .ok (.lconst 0, 1) := by decide +kernel
theorem dX4_losses_13 : decode cX4_losses 13 = .ok (.ldc2_w 194, 3) := by decide +kernel
theorem dX4_losses_16 : decode cX4_losses 16 = .ok (.invokestatic 74, 3) := by decide +kernel
theorem dX4_losses_19 : decode cX4_losses 19 = .ok (.ifCond .eq 15, 3) := by decide +kernel
theorem dX4_losses_22 : decode cX4_losses 22 = .ok (.iload_n 3, 1) := by decide +kernel
theorem dX4_losses_23 : decode cX4_losses 23 = .ok (.i2l, 1) := by decide +kernel
theorem dX4_losses_24 : decode cX4_losses 24 = .ok (.lconst 0, 1) := by decide +kernel
theorem dX4_losses_25 : decode cX4_losses 25 = .ok (.ldc2_w 155, 3) := by decide +kernel
theorem dX4_losses_28 : decode cX4_losses 28 = .ok (.invokestatic 74, 3) := by decide +kernel
theorem dX4_losses_31 : decode cX4_losses 31 = .ok (.ifCond .ne 6, 3) := by decide +kernel
theorem dX4_losses_34 : decode cX4_losses 34 = .ok (.bipush (-2), 2) := by decide +kernel
theorem dX4_losses_36 : decode cX4_losses 36 = .ok (.ireturn, 1) := by decide +kernel
theorem dX4_losses_37 : decode cX4_losses 37 = .ok (.iconst 1, 1) := by decide +kernel
theorem dX4_losses_38 : decode cX4_losses 38 = .ok (.aload_n 0, 1) := by decide +kernel
theorem dX4_losses_39 : decode cX4_losses 39 = .ok (.getfield 101, 3) := by decide +kernel
theorem dX4_losses_42 : decode cX4_losses 42 = .ok (.ishl, 1) := by decide +kernel
theorem dX4_losses_43 : decode cX4_losses 43 = .ok (.iconst 1, 1) := by decide +kernel
theorem dX4_losses_44 : decode cX4_losses 44 = .ok (.isub, 1) := by decide +kernel
theorem dX4_losses_45 : decode cX4_losses 45 = .ok (.aload_n 0, 1) := by decide +kernel
theorem dX4_losses_46 : decode cX4_losses 46 = .ok (.invokevirtual 185, 3) := by decide +kernel
theorem dX4_losses_49 : decode cX4_losses 49 = .ok (.iconst (-1), 1) := by decide +kernel
theorem dX4_losses_50 : decode cX4_losses 50 = .ok (.ixor, 1) := by decide +kernel
theorem dX4_losses_51 : decode cX4_losses 51 = .ok (.iand, 1) := by decide +kernel
theorem dX4_losses_52 : decode cX4_losses 52 = .ok (.istore 5, 2) := by decide +kernel
theorem dX4_losses_54 : decode cX4_losses 54 = .ok (.iconst 0, 1) := by decide +kernel
theorem dX4_losses_55 : decode cX4_losses 55 = .ok (.istore 6, 2) := by decide +kernel
theorem dX4_losses_57 : decode cX4_losses 57 = .ok (.iconst 0, 1) := by decide +kernel
theorem dX4_losses_58 : decode cX4_losses 58 = .ok (.istore 7, 2) := by decide +kernel
theorem dX4_losses_60 : decode cX4_losses 60 = .ok (.iconst 0, 1) := by decide +kernel
theorem dX4_losses_61 : decode cX4_losses 61 = .ok (.istore 8, 2) := by decide +kernel
theorem dX4_losses_63 : decode cX4_losses 63 = .ok (.iload 8, 2) := by decide +kernel
theorem dX4_losses_65 : decode cX4_losses 65 = .ok (.iconst 1, 1) := by decide +kernel
theorem dX4_losses_66 : decode cX4_losses 66 = .ok (.aload_n 0, 1) := by decide +kernel
theorem dX4_losses_67 : decode cX4_losses 67 = .ok (.getfield 101, 3) := by decide +kernel
theorem dX4_losses_70 : decode cX4_losses 70 = .ok (.ishl, 1) := by decide +kernel
theorem dX4_losses_71 : decode cX4_losses 71 = .ok (.if_icmp .ge 115, 3) := by decide +kernel
theorem dX4_losses_74 : decode cX4_losses 74 = .ok (.iload 8, 2) := by decide +kernel
theorem dX4_losses_76 : decode cX4_losses 76 = .ok (.iload 5, 2) := by decide +kernel
theorem dX4_losses_78 : decode cX4_losses 78 = .ok (.iconst (-1), 1) := by decide +kernel
theorem dX4_losses_79 : decode cX4_losses 79 = .ok (.ixor, 1) := by decide +kernel
theorem dX4_losses_80 : decode cX4_losses 80 = .ok (.iand, 1) := by decide +kernel
theorem dX4_losses_81 : decode cX4_losses 81 = .ok (.ifCond .ne 99, 3) := by decide +kernel
theorem dX4_losses_84 : decode cX4_losses 84 = .ok (.iconst 1, 1) := by decide +kernel
theorem dX4_losses_85 : decode cX4_losses 85 = .ok (.istore 9, 2) := by decide +kernel
theorem dX4_losses_87 : decode cX4_losses 87 = .ok (.iconst 0, 1) := by decide +kernel
theorem dX4_losses_88 : decode cX4_losses 88 = .ok (.istore 10, 2) := by decide +kernel
theorem dX4_losses_90 : decode cX4_losses 90 = .ok (.iload 10, 2) := by decide +kernel
theorem dX4_losses_92 : decode cX4_losses 92 = .ok (.aload_n 0, 1) := by decide +kernel
theorem dX4_losses_93 : decode cX4_losses 93 = .ok (.getfield 101, 3) := by decide +kernel
theorem dX4_losses_96 : decode cX4_losses 96 = .ok (.if_icmp .ge 46, 3) := by decide +kernel
theorem dX4_losses_99 : decode cX4_losses 99 = .ok (.iload 9, 2) := by decide +kernel
theorem dX4_losses_101 : decode cX4_losses 101 = .ok (.iload 5, 2) := by decide +kernel
theorem dX4_losses_103 : decode cX4_losses 103 = .ok (.iload 10, 2) := by decide +kernel
theorem dX4_losses_105 : decode cX4_losses 105 = .ok (.invokestatic 129, 3) := by decide +kernel
theorem dX4_losses_108 : decode cX4_losses 108 = .ok (.ifCond .ne 7, 3) := by decide +kernel
theorem dX4_losses_111 : decode cX4_losses 111 = .ok (.iconst 1, 1) := by decide +kernel
theorem dX4_losses_112 : decode cX4_losses 112 = .ok (.goto 21, 3) := by decide +kernel
theorem dX4_losses_115 : decode cX4_losses 115 = .ok (.iload 8, 2) := by decide +kernel
theorem dX4_losses_117 : decode cX4_losses 117 = .ok (.iload 10, 2) := by decide +kernel
theorem dX4_losses_119 : decode cX4_losses 119 = .ok (.invokestatic 129, 3) := by decide +kernel
theorem dX4_losses_122 : decode cX4_losses 122 = .ok (.ifCond .eq 7, 3) := by decide +kernel
theorem dX4_losses_125 : decode cX4_losses 125 = .ok (.iload_n 3, 1) := by decide +kernel
theorem dX4_losses_126 : decode cX4_losses 126 = .ok (.goto 7, 3) := by decide +kernel
theorem dX4_losses_129 : decode cX4_losses 129 = .ok (.bipush 10, 2) := by decide +kernel
theorem dX4_losses_131 : decode cX4_losses 131 = .ok (.iload_n 3, 1) := by decide +kernel
theorem dX4_losses_132 : decode cX4_losses 132 = .ok (.isub, 1) := by decide +kernel
theorem dX4_losses_133 : decode cX4_losses 133 = .ok (.imul, 1) := by decide +kernel
theorem dX4_losses_134 : decode cX4_losses 134 = .ok (.istore 9, 2) := by decide +kernel
theorem dX4_losses_136 : decode cX4_losses 136 = .ok (.iinc 10 1, 3) := by decide +kernel
theorem dX4_losses_139 : decode cX4_losses 139 = .ok (.goto (-49), 3) := by decide +kernel
theorem dX4_losses_142 : decode cX4_losses 142 = .ok (.aload_n 0, 1) := by decide +kernel
theorem dX4_losses_143 : decode cX4_losses 143 = .ok (.iload 8, 2) := by decide +kernel
theorem dX4_losses_145 : decode cX4_losses 145 = .ok (.invokevirtual 179, 3) := by decide +kernel
theorem dX4_losses_148 : decode cX4_losses 148 = .ok (.pop, 1) := by decide +kernel
theorem dX4_losses_149 : decode cX4_losses 149 = .ok (.iload 7, 2) := by decide +kernel
theorem dX4_losses_151 : decode cX4_losses 151 = .ok (.iload 9, 2) := by decide +kernel
theorem dX4_losses_153 : decode cX4_losses 153 = .ok (.iadd, 1) := by decide +kernel
theorem dX4_losses_154 : decode cX4_losses 154 = .ok (.istore 7, 2) := by decide +kernel
theorem dX4_losses_156 : decode cX4_losses 156 = .ok (.iload 6, 2) := by decide +kernel
theorem dX4_losses_158 : decode cX4_losses 158 = .ok (.aload_n 0, 1) := by decide +kernel
theorem dX4_losses_159 : decode cX4_losses 159 = .ok (.getfield 19, 3) := by decide +kernel
theorem dX4_losses_162 : decode cX4_losses 162 = .ok (.bipush 49, 2) := by decide +kernel
theorem dX4_losses_164 : decode cX4_losses 164 = .ok (.iload_n 1, 1) := by decide +kernel
theorem dX4_losses_165 : decode cX4_losses 165 = .ok (.iadd, 1) := by decide +kernel
theorem dX4_losses_166 : decode cX4_losses 166 = .ok (.iaload, 1) := by decide +kernel
theorem dX4_losses_167 : decode cX4_losses 167 = .ok (.iload_n 2, 1) := by decide +kernel
theorem dX4_losses_168 : decode cX4_losses 168 = .ok (.if_icmp .ne 8, 3) := by decide +kernel
theorem dX4_losses_171 : decode cX4_losses 171 = .ok (.iload 9, 2) := by decide +kernel
theorem dX4_losses_173 : decode cX4_losses 173 = .ok (.goto 4, 3) := by decide +kernel
theorem dX4_losses_176 : decode cX4_losses 176 = .ok (.iconst 0, 1) := by decide +kernel
theorem dX4_losses_177 : decode cX4_losses 177 = .ok (.iadd, 1) := by decide +kernel
theorem dX4_losses_178 : decode cX4_losses 178 = .ok (.istore 6, 2) := by decide +kernel
theorem dX4_losses_180 : decode cX4_losses 180 = .ok (.iinc 8 1, 3) := by decide +kernel
theorem dX4_losses_183 : decode cX4_losses 183 = .ok (.goto (-120), 3) := by decide +kernel
theorem dX4_losses_186 : decode cX4_losses 186 = .ok (.iload 6, 2) := by decide +kernel
theorem dX4_losses_188 : decode cX4_losses 188 = .ok (.iload 7, 2) := by decide +kernel
theorem dX4_losses_190 : decode cX4_losses 190 = .ok (.invokestatic 191, 3) := by decide +kernel
theorem dX4_losses_193 : decode cX4_losses 193 = .ok (.istore 8, 2) := by decide +kernel
theorem dX4_losses_195 : decode cX4_losses 195 = .ok (.iload 4, 2) := by decide +kernel
theorem dX4_losses_197 : decode cX4_losses 197 = .ok (.ifCond .eq 11, 3) := by decide +kernel
theorem dX4_losses_200 : decode cX4_losses 200 = .ok (.iload 6, 2) := by decide +kernel
theorem dX4_losses_202 : decode cX4_losses 202 = .ok (.iload 8, 2) := by decide +kernel
theorem dX4_losses_204 : decode cX4_losses 204 = .ok (.idiv, 1) := by decide +kernel
theorem dX4_losses_205 : decode cX4_losses 205 = .ok (.goto 8, 3) := by decide +kernel
theorem dX4_losses_208 : decode cX4_losses 208 = .ok (.iload 7, 2) := by decide +kernel
theorem dX4_losses_210 : decode cX4_losses 210 = .ok (.iload 8, 2) := by decide +kernel
theorem dX4_losses_212 : decode cX4_losses 212 = .ok (.idiv, 1) := by decide +kernel
theorem dX4_losses_213 : decode cX4_losses 213 = .ok (.ireturn, 1) := by decide +kernel
theorem mulP {w f v x : Int32} (h0 : 0 ≤ w.toInt) (hB : w.toInt ≤ (10 : Int) ^ x.toInt.toNat) (hx5 : x.toInt ≤ 5) (f0 : 0 ≤ f.toInt) (f1 : f.toInt ≤ 10) (e : v = w * f) : 0 ≤ v.toInt ∧ v.toInt ≤ (10 : Int) ^ (x.toInt.toNat + 1) ∧ v.toInt ≤ 1000000 ∧ (1 ≤ w.toInt → 1 ≤ f.toInt → 1 ≤ v.toInt) := by
  have hp : (10 : Int) ^ x.toInt.toNat ≤ 100000 := by
    have key : ∀ j : Nat, j < 6 → (10 : Int) ^ j ≤ 100000 := by decide
    exact key _ (by omega)
  have hm1 : 0 ≤ w.toInt * f.toInt := Int.mul_nonneg h0 f0
  have hm2 : w.toInt * f.toInt ≤ (10 : Int) ^ x.toInt.toNat * 10 := Int.mul_le_mul hB f1 f0 (Int.le_trans h0 hB)
  have hv : v.toInt = w.toInt * f.toInt := by
    rw [e]
    exact ti_mul (by omega) (by omega)
  refine ⟨by omega, ?_, by omega, fun a b => ?_⟩
  · rw [hv, Int.pow_succ]; exact hm2
  · have h1 := Int.mul_le_mul a b (by decide) h0
    omega
theorem and_not {x l n v : Int32} (en : n = l ^^^ -1) (ev : v = x &&& n) (h : x.toInt = 0 ∨ x.toInt = l.toInt) : v.toInt = 0 := by
  have hv : v = 0 := by
    rcases h with h | h
    · have hx : x = 0 := Int32.toInt_inj.mp (h.trans (show (0 : Int) = (0 : Int32).toInt by decide))
      rw [ev, hx]
      apply Int32.toBitVec_inj.mp
      apply BitVec.eq_of_getLsbD_eq
      intro i hi
      rw [Int32.toBitVec_and, BitVec.getLsbD_and]
      rw [show (0 : Int32).toBitVec = 0#32 from rfl, BitVec.getLsbD_zero, Bool.false_and]
    · have hx : x = l := Int32.toInt_inj.mp h
      rw [ev, en, hx]
      apply Int32.toBitVec_inj.mp
      apply BitVec.eq_of_getLsbD_eq
      intro i hi
      rw [Int32.toBitVec_and, Int32.toBitVec_xor, BitVec.getLsbD_and, BitVec.getLsbD_xor]
      rw [show (-1 : Int32).toBitVec = BitVec.allOnes 32 from rfl, show (0 : Int32).toBitVec = 0#32 from rfl, BitVec.getLsbD_allOnes, BitVec.getLsbD_zero]
      have hd : decide (i < 32) = true := decide_eq_true hi
      rw [hd]
      cases l.toBitVec.getLsbD i <;> rfl
  rw [hv]; decide
theorem bit0 (k : Int32) : bitOf 0 k ≠ 1 := by
  have h : bitOf 0 k = 0 := by
    unfold bitOf
    apply Int32.toBitVec_inj.mp
    apply BitVec.eq_of_getLsbD_eq
    intro i hi
    rw [Int32.toBitVec_and, Int32.toBitVec_shiftRight, BitVec.sshiftRight_eq']
    rw [show (0 : Int32).toBitVec = 0#32 from rfl, BitVec.getLsbD_and, BitVec.getLsbD_sshiftRight]
    simp
  rw [h]; decide

set_option maxHeartbeats 600000 in
set_option maxRecDepth 100000 in
theorem c_X4_has2 (l : Launch) (D : va_G) (cI cZ cM : ClassId) (n : Int32) (k : Int32) (sz : Nat)  : Ci l yX4_has wsX4_has ({ frames := 0, cells := 0, slots := 0, locals := 0 } : Room) D cI cZ cM [.int n, .int k] [] sz (fun (r : Int32) (u : Unit) => (r.toInt = 1 ∧ bitOf n k = 1) ∨ (r.toInt = 0 ∧ bitOf n k ≠ 1)) (fun u => []) 0 0 := by
  refine begins (l := l) (y := yX4_has) (ws := wsX4_has) (av := [.int n, .int k]) (Qc := fun A => va_Qi (fun (r : Int32) (u : Unit) => (r.toInt = 1 ∧ bitOf n k = 1) ∨ (r.toInt = 0 ∧ bitOf n k ≠ 1)) (fun u => Wd D cI cZ cM A ((fun u => []) u)) A) cX4_has 2 (some .boolean) (by decide) rfl (Nat.le_of_ble_eq_true rfl) ?_
  intro p e s m args below meth c R Q A ls hBd hR hQ hA hS hK hP hD hl
  obtain ⟨hx, hb, hr, hts, hown, hlocks, hin, hml⟩ := hBd
  have hl : lv_has ls 2 [(0, .int n), (1, .int k)] := hl
  refine lv_iload_n hx hb dX4_has_0 rfl (lv_at hl 0 rfl) ?_
  refine lv_iload_n hx hb dX4_has_1 rfl (lv_at hl 1 rfl) ?_
  refine lv_ishr hx hb dX4_has_2 ?_
  refine lv_topi (fun v_1 ev_1 => ?_)
  have evS := ev_1
  refine lv_iconst (v := 1) hx hb dX4_has_3 (by decide) ?_
  refine lv_iand hx hb dX4_has_4 ?_
  refine lv_topi (fun v_2 ev_2 => ?_)
  have evA := ev_2
  refine lv_iconst (v := 1) hx hb dX4_has_5 (by decide) ?_
  refine lv_icmp_ne (tgt := 13) hx hb dX4_has_6 (by decide) (fun c_3 => ?_) (fun c_3 => ?_)
  · have tc_3 := b_ne rfl (show (1 : Int32).toInt = 1 by decide) c_3
    refine lv_iconst (v := 0) hx hb dX4_has_13 (by decide) ?_
    exact ret_i (post := (fun (r : Int32) (u : Unit) => (r.toInt = 1 ∧ bitOf n k = 1) ∨ (r.toInt = 0 ∧ bitOf n k ≠ 1))) (W1 := (fun u => [])) () hx hb hr hlocks rfl hQ hK hP hD hS ⟨by decide, by decide⟩ dX4_has_14 (Or.inr ⟨by decide, by unfold bitOf; rw [← evS, ← evA]; assumption⟩)
  · have tc_3 := b_eq rfl (show (1 : Int32).toInt = 1 by decide) c_3
    refine lv_iconst (v := 1) hx hb dX4_has_9 (by decide) ?_
    refine lv_goto (tgt := 14) hx hb dX4_has_10 (by decide) ?_
    exact ret_i (post := (fun (r : Int32) (u : Unit) => (r.toInt = 1 ∧ bitOf n k = 1) ∨ (r.toInt = 0 ∧ bitOf n k ≠ 1))) (W1 := (fun u => [])) () hx hb hr hlocks rfl hQ hK hP hD hS ⟨by decide, by decide⟩ dX4_has_14 (Or.inl ⟨by decide, by unfold bitOf; rw [← evS, ← evA]; assumption⟩)

set_option maxHeartbeats 600000 in
set_option maxRecDepth 100000 in
theorem c_X4_losses (l : Launch) (D : va_G) (cI cZ cM : ClassId) (h0 : Nat) (n : Int32) (k : Int32) (j : Int32) (z : Int32) (ype : Int32) (ytk : Int32) (ywi : Nat) (yki : Nat) (yse : Nat) (yno : Nat) (yrh : Nat) (yrw : Nat) (yrk : Nat) (yrt : Nat) (yrp : Int32) (yrq : Int32) (ytx : Nat) (yle : Int32) (yat : Int32) (yfa : Int32) (yby : Nat) (ylo : Nat) (yhi : Nat) (yac : Int32) (ynx : Int32) (yro : Nat) (ygl : Nat) (ysn : Int32) (yso : Nat) (ysp : Nat) (ysw : Nat) (ysd : Int64) (yik : Nat) (ykp : Nat) (Fno : Nat → Int32) (Fki : Nat → Int32) (Fby : Nat → Int32) (Flo : Nat → Int32) (Fhi : Nat → Int32) (Fwi : Nat → Int32) (sz : Nat) (hBy : ByOk Fby) (h_ype : 0 ≤ ype.toInt ∧ ype.toInt ≤ 5) (h_ytk : 0 ≤ ytk.toInt ∧ ytk.toInt ≤ 6) : Ci l yX4_losses wsX4_losses ({ frames := 4, cells := 0, slots := 0, locals := 99 } : Room) D cI cZ cM [.ref h0, .int n, .int k, .int j, .int z] [(h0, .inr (4, [.int ype, .int ytk, .ref ywi, .ref yki, .ref yse, .ref yno, .ref yrh, .ref yrw, .ref yrk, .ref yrt, .int yrp, .int yrq, .ref ytx, .int yle, .int yat, .int yfa, .ref yby, .ref ylo, .ref yhi, .int yac, .int ynx, .ref yro, .ref ygl, .int ysn, .ref yso, .ref ysp, .ref ysw, .long ysd, .ref yik, .ref ykp])), (yno, .inl (cI, 96, .inl Fno)), (yki, .inl (cI, 5, .inl Fki)), (yby, .inl (cI, 5, .inl Fby)), (ylo, .inl (cI, 5, .inl Flo)), (yhi, .inl (cI, 5, .inl Fhi)), (ywi, .inl (cI, 5, .inl Fwi))] sz (fun (r : Int32) (u : (Nat → Int32) × (Nat → Int32) × (Nat → Int32) × (Nat → Int32)) => ByOk u.2.1) (fun u => [(h0, .inr (4, [.int ype, .int ytk, .ref ywi, .ref yki, .ref yse, .ref yno, .ref yrh, .ref yrw, .ref yrk, .ref yrt, .int yrp, .int yrq, .ref ytx, .int yle, .int yat, .int yfa, .ref yby, .ref ylo, .ref yhi, .int yac, .int ynx, .ref yro, .ref ygl, .int ysn, .ref yso, .ref ysp, .ref ysw, .long ysd, .ref yik, .ref ykp])), (yno, .inl (cI, 96, .inl u.1)), (yki, .inl (cI, 5, .inl Fki)), (yby, .inl (cI, 5, .inl u.2.1)), (ylo, .inl (cI, 5, .inl u.2.2.1)), (yhi, .inl (cI, 5, .inl u.2.2.2)), (ywi, .inl (cI, 5, .inl Fwi))]) 0 0 := by
  refine begins (l := l) (y := yX4_losses) (ws := wsX4_losses) (av := [.ref h0, .int n, .int k, .int j, .int z]) (Qc := fun A => va_Qi (fun (r : Int32) (u : (Nat → Int32) × (Nat → Int32) × (Nat → Int32) × (Nat → Int32)) => ByOk u.2.1) (fun u => Wd D cI cZ cM A ((fun u => [(h0, .inr (4, [.int ype, .int ytk, .ref ywi, .ref yki, .ref yse, .ref yno, .ref yrh, .ref yrw, .ref yrk, .ref yrt, .int yrp, .int yrq, .ref ytx, .int yle, .int yat, .int yfa, .ref yby, .ref ylo, .ref yhi, .int yac, .int ynx, .ref yro, .ref ygl, .int ysn, .ref yso, .ref ysp, .ref ysw, .long ysd, .ref yik, .ref ykp])), (yno, .inl (cI, 96, .inl u.1)), (yki, .inl (cI, 5, .inl Fki)), (yby, .inl (cI, 5, .inl u.2.1)), (ylo, .inl (cI, 5, .inl u.2.2.1)), (yhi, .inl (cI, 5, .inl u.2.2.2)), (ywi, .inl (cI, 5, .inl Fwi))]) u)) A) cX4_losses 11 (some .int) (by decide) rfl (Nat.le_of_ble_eq_true rfl) ?_
  intro p e s m args below meth c R Q A ls hBd hR hQ hA hS hK hP hD hl
  obtain ⟨hx, hb, hr, hts, hown, hlocks, hin, hml⟩ := hBd
  have hl : lv_has ls 11 [(0, .ref h0), (1, .int n), (2, .int k), (3, .int j), (4, .int z)] := hl
  have iX4 : ∀ w ∈ wsX40, w ∈ wsX4_losses := fun _ h => List.mem_cons_of_mem _ (List.mem_append_right _ h)
  obtain ⟨h_ypea, h_ypeb⟩ := h_ype
  obtain ⟨h_ytka, h_ytkb⟩ := h_ytk
  refine lv_aload_n hx hb dX4_losses_0 rfl (lv_at hl 0 rfl) ?_
  refine lv_iload_n hx hb dX4_losses_1 rfl (lv_at hl 1 rfl) ?_
  refine cV_i (As := [.int n]) (rest := []) ⟨hx, hb, hml, hown, hts⟩ (c_X4_isPerson l D cI cZ cM h0 n ype ytk ywi yki yse yno yrh yrw yrk yrt yrp yrq ytx yle yat yfa yby ylo yhi yac ynx yro ygl ysn yso ysp ysw ysd yik ykp _ (show 0 ≤ ype.toInt ∧ ype.toInt ≤ 6 by omega)) (cwV 1 hts gX4_losses_X4_isPerson rfl rfl rfl (by decide +kernel) ⟨by rw [hR]; decide, by rw [hR]; decide⟩) hK hP hD hS hA [0] [1, 2, 3, 4, 5, 6] rfl rfl (by decide) (by decide) (by decide) rfl 0 rfl hl.1 rfl rfl (Nat.le_of_ble_eq_true rfl) dX4_losses_2 ⟨by rw [hR]; decide, by rw [hR]; decide⟩ (fun r_1 u_2 H locs hw hP hD hS => ?_)
  have hP : va_P D vwCl [(h0, .inr (4, [.int ype, .int ytk, .ref ywi, .ref yki, .ref yse, .ref yno, .ref yrh, .ref yrw, .ref yrk, .ref yrt, .int yrp, .int yrq, .ref ytx, .int yle, .int yat, .int yfa, .ref yby, .ref ylo, .ref yhi, .int yac, .int ynx, .ref yro, .ref ygl, .int ysn, .ref yso, .ref ysp, .ref ysw, .long ysd, .ref yik, .ref ykp])), (yno, .inl (cI, 96, .inl Fno)), (yki, .inl (cI, 5, .inl Fki)), (yby, .inl (cI, 5, .inl Fby)), (ylo, .inl (cI, 5, .inl Flo)), (yhi, .inl (cI, 5, .inl Fhi)), (ywi, .inl (cI, 5, .inl Fwi))] H := hP.sub [6, 0, 1, 2, 3, 4, 5] rfl
  have hD : va_D A [(h0, .inr (4, [.int ype, .int ytk, .ref ywi, .ref yki, .ref yse, .ref yno, .ref yrh, .ref yrw, .ref yrk, .ref yrt, .int yrp, .int yrq, .ref ytx, .int yle, .int yat, .int yfa, .ref yby, .ref ylo, .ref yhi, .int yac, .int ynx, .ref yro, .ref ygl, .int ysn, .ref yso, .ref ysp, .ref ysw, .long ysd, .ref yik, .ref ykp])), (yno, .inl (cI, 96, .inl Fno)), (yki, .inl (cI, 5, .inl Fki)), (yby, .inl (cI, 5, .inl Fby)), (ylo, .inl (cI, 5, .inl Flo)), (yhi, .inl (cI, 5, .inl Fhi)), (ywi, .inl (cI, 5, .inl Fwi))] := hD.sub [6, 0, 1, 2, 3, 4, 5] (by decide) rfl
  refine W.widen (k := 0) (n := 0) (Nat.le_refl _) (Nat.le_refl _) ?_
  have hw : (r_1.toInt = 1 ∧ 0 ≤ n.toInt ∧ n.toInt < ype.toInt) ∨ (r_1.toInt = 0 ∧ (n.toInt < 0 ∨ ype.toInt ≤ n.toInt)) := hw
  have hw_3 := hw
  refine lv_if_ne (tgt := 10) hx hb dX4_losses_5 (by decide) (fun c_4 => ?_) (fun c_4 => ?_)
  · have tc_4 := b_ne rfl (show (0 : Int32).toInt = 0 by decide) c_4
    have hn1 : 0 ≤ n.toInt := by omega
    have hn2 : n.toInt ≤ 4 := by omega
    refine lv_iload_n hx hb dX4_losses_10 rfl (lv_at hl 2 rfl) ?_
    obtain ⟨w_5, ew_5⟩ : ∃ z : Int64, k.toInt64 = z := ⟨_, rfl⟩
    have tw_5 : w_5.toInt = k.toInt := by rw [← ew_5, Int32.toInt_toInt64]
    refine lv_i2l hx hb dX4_losses_11 ew_5 ?_
    refine lv_lconst (v := 0) hx hb dX4_losses_12 (by decide) ?_
    refine lv_ldc2 (v := (9)) hx hb hown (hts (.constantLong RX4 194 (9)) (List.mem_of_getElem? (i := 1) rfl)) dX4_losses_13 ?_
    refine cS_i (As := [.long w_5, .long 0, .long (9)]) (rest := []) ⟨hx, hb, hml, hown, hts⟩ (c_X4_in l D cI cZ cM w_5 0 (9) _ ) (va_cwS 3 hts gX4_losses_X4_in rfl rfl rfl (by decide +kernel) ⟨by rw [hR]; decide, by rw [hR]; decide⟩) hK hP hD hS hA [] [0, 1, 2, 3, 4, 5, 6] rfl rfl (by decide) (by decide) (by decide) hl.1 rfl rfl (Nat.le_of_ble_eq_true rfl) dX4_losses_16 ⟨by rw [hR]; decide, by rw [hR]; decide⟩ (fun r_6 u_7 H locs hw hP hD hS => ?_)
    have hP : va_P D vwCl [(h0, .inr (4, [.int ype, .int ytk, .ref ywi, .ref yki, .ref yse, .ref yno, .ref yrh, .ref yrw, .ref yrk, .ref yrt, .int yrp, .int yrq, .ref ytx, .int yle, .int yat, .int yfa, .ref yby, .ref ylo, .ref yhi, .int yac, .int ynx, .ref yro, .ref ygl, .int ysn, .ref yso, .ref ysp, .ref ysw, .long ysd, .ref yik, .ref ykp])), (yno, .inl (cI, 96, .inl Fno)), (yki, .inl (cI, 5, .inl Fki)), (yby, .inl (cI, 5, .inl Fby)), (ylo, .inl (cI, 5, .inl Flo)), (yhi, .inl (cI, 5, .inl Fhi)), (ywi, .inl (cI, 5, .inl Fwi))] H := hP.sub [0, 1, 2, 3, 4, 5, 6] rfl
    have hD : va_D A [(h0, .inr (4, [.int ype, .int ytk, .ref ywi, .ref yki, .ref yse, .ref yno, .ref yrh, .ref yrw, .ref yrk, .ref yrt, .int yrp, .int yrq, .ref ytx, .int yle, .int yat, .int yfa, .ref yby, .ref ylo, .ref yhi, .int yac, .int ynx, .ref yro, .ref ygl, .int ysn, .ref yso, .ref ysp, .ref ysw, .long ysd, .ref yik, .ref ykp])), (yno, .inl (cI, 96, .inl Fno)), (yki, .inl (cI, 5, .inl Fki)), (yby, .inl (cI, 5, .inl Fby)), (ylo, .inl (cI, 5, .inl Flo)), (yhi, .inl (cI, 5, .inl Fhi)), (ywi, .inl (cI, 5, .inl Fwi))] := hD.sub [0, 1, 2, 3, 4, 5, 6] (by decide) rfl
    refine W.widen (k := 0) (n := 0) (Nat.le_refl _) (Nat.le_refl _) ?_
    have hw : (r_6.toInt = 1 ∧ (0 : Int) ≤ w_5.toInt ∧ w_5.toInt ≤ (9 : Int)) ∨ (r_6.toInt = 0 ∧ (w_5.toInt < (0 : Int) ∨ (9 : Int) < w_5.toInt)) := hw
    have hw_8 := hw
    refine lv_if_eq (tgt := 34) hx hb dX4_losses_19 (by decide) (fun c_9 => ?_) (fun c_9 => ?_)
    · have tc_9 := b_eq rfl (show (0 : Int32).toInt = 0 by decide) c_9
      refine lv_bipush (v := (-2)) hx hb dX4_losses_34 (by decide) ?_
      exact ret_i (post := (fun (r : Int32) (u : (Nat → Int32) × (Nat → Int32) × (Nat → Int32) × (Nat → Int32)) => ByOk u.2.1)) (W1 := (fun u => [(h0, .inr (4, [.int ype, .int ytk, .ref ywi, .ref yki, .ref yse, .ref yno, .ref yrh, .ref yrw, .ref yrk, .ref yrt, .int yrp, .int yrq, .ref ytx, .int yle, .int yat, .int yfa, .ref yby, .ref ylo, .ref yhi, .int yac, .int ynx, .ref yro, .ref ygl, .int ysn, .ref yso, .ref ysp, .ref ysw, .long ysd, .ref yik, .ref ykp])), (yno, .inl (cI, 96, .inl u.1)), (yki, .inl (cI, 5, .inl Fki)), (yby, .inl (cI, 5, .inl u.2.1)), (ylo, .inl (cI, 5, .inl u.2.2.1)), (yhi, .inl (cI, 5, .inl u.2.2.2)), (ywi, .inl (cI, 5, .inl Fwi))])) (Fno, Fby, Flo, Fhi) hx hb hr hlocks rfl hQ hK hP hD hS ⟨by decide, by decide⟩ dX4_losses_36 hBy
    · have tc_9 := b_ne rfl (show (0 : Int32).toInt = 0 by decide) c_9
      refine lv_iload_n hx hb dX4_losses_22 rfl (lv_at hl 3 rfl) ?_
      obtain ⟨w_10, ew_10⟩ : ∃ z : Int64, j.toInt64 = z := ⟨_, rfl⟩
      have tw_10 : w_10.toInt = j.toInt := by rw [← ew_10, Int32.toInt_toInt64]
      refine lv_i2l hx hb dX4_losses_23 ew_10 ?_
      refine lv_lconst (v := 0) hx hb dX4_losses_24 (by decide) ?_
      refine lv_ldc2 (v := (10)) hx hb hown (hts (.constantLong RX4 155 (10)) (List.mem_of_getElem? (i := 2) rfl)) dX4_losses_25 ?_
      refine cS_i (As := [.long w_10, .long 0, .long (10)]) (rest := []) ⟨hx, hb, hml, hown, hts⟩ (c_X4_in l D cI cZ cM w_10 0 (10) _ ) (va_cwS 3 hts gX4_losses_X4_in rfl rfl rfl (by decide +kernel) ⟨by rw [hR]; decide, by rw [hR]; decide⟩) hK hP hD hS hA [] [0, 1, 2, 3, 4, 5, 6] rfl rfl (by decide) (by decide) (by decide) hl.1 rfl rfl (Nat.le_of_ble_eq_true rfl) dX4_losses_28 ⟨by rw [hR]; decide, by rw [hR]; decide⟩ (fun r_11 u_12 H locs hw hP hD hS => ?_)
      have hP : va_P D vwCl [(h0, .inr (4, [.int ype, .int ytk, .ref ywi, .ref yki, .ref yse, .ref yno, .ref yrh, .ref yrw, .ref yrk, .ref yrt, .int yrp, .int yrq, .ref ytx, .int yle, .int yat, .int yfa, .ref yby, .ref ylo, .ref yhi, .int yac, .int ynx, .ref yro, .ref ygl, .int ysn, .ref yso, .ref ysp, .ref ysw, .long ysd, .ref yik, .ref ykp])), (yno, .inl (cI, 96, .inl Fno)), (yki, .inl (cI, 5, .inl Fki)), (yby, .inl (cI, 5, .inl Fby)), (ylo, .inl (cI, 5, .inl Flo)), (yhi, .inl (cI, 5, .inl Fhi)), (ywi, .inl (cI, 5, .inl Fwi))] H := hP.sub [0, 1, 2, 3, 4, 5, 6] rfl
      have hD : va_D A [(h0, .inr (4, [.int ype, .int ytk, .ref ywi, .ref yki, .ref yse, .ref yno, .ref yrh, .ref yrw, .ref yrk, .ref yrt, .int yrp, .int yrq, .ref ytx, .int yle, .int yat, .int yfa, .ref yby, .ref ylo, .ref yhi, .int yac, .int ynx, .ref yro, .ref ygl, .int ysn, .ref yso, .ref ysp, .ref ysw, .long ysd, .ref yik, .ref ykp])), (yno, .inl (cI, 96, .inl Fno)), (yki, .inl (cI, 5, .inl Fki)), (yby, .inl (cI, 5, .inl Fby)), (ylo, .inl (cI, 5, .inl Flo)), (yhi, .inl (cI, 5, .inl Fhi)), (ywi, .inl (cI, 5, .inl Fwi))] := hD.sub [0, 1, 2, 3, 4, 5, 6] (by decide) rfl
      refine W.widen (k := 0) (n := 0) (Nat.le_refl _) (Nat.le_refl _) ?_
      have hw : (r_11.toInt = 1 ∧ (0 : Int) ≤ w_10.toInt ∧ w_10.toInt ≤ (10 : Int)) ∨ (r_11.toInt = 0 ∧ (w_10.toInt < (0 : Int) ∨ (10 : Int) < w_10.toInt)) := hw
      have hw_13 := hw
      refine lv_if_ne (tgt := 37) hx hb dX4_losses_31 (by decide) (fun c_14 => ?_) (fun c_14 => ?_)
      · have tc_14 := b_ne rfl (show (0 : Int32).toInt = 0 by decide) c_14
        have hj1 : 0 ≤ j.toInt := by omega
        have hj2 : j.toInt ≤ 10 := by omega
        refine lv_iconst (v := 1) hx hb dX4_losses_37 (by decide) ?_
        refine lv_aload_n hx hb dX4_losses_38 rfl (lv_at hl 0 rfl) ?_
        refine va_get (D := D) (ci := 4) (v := .int ytk) (C := RX4) (T := TX4) (N := 30) hx hb hts iX4 hown hK hP 0 rfl rfl 1 (by decide) (hts (.fieldLink RX4 101 "PunchedTicketModel" "tickets" "I") (List.mem_of_getElem? (i := 3) rfl)) (fun _ h9 => h9) rfl dX4_losses_39 ?_
        refine lv_ishl hx hb dX4_losses_42 ?_
        refine lv_topi (fun v_15 ev_15 => ?_)
        obtain ⟨hv_15a, hv_15b⟩ := sh1_bd (show 0 ≤ ytk.toInt by omega) (by omega) ev_15
        refine lv_iconst (v := 1) hx hb dX4_losses_43 (by decide) ?_
        refine lv_isub hx hb dX4_losses_44 ?_
        refine lv_topi (fun v_16 ev_16 => ?_)
        have tv_16 : v_16.toInt = v_15.toInt - (1 : Int) := by rw [ev_16]; exact ti_sub (x := v_15) (y := 1) (show -2147483648 ≤ v_15.toInt - (1 : Int) by omega) (show v_15.toInt - (1 : Int) < 2147483648 by omega)
        refine lv_aload_n hx hb dX4_losses_45 rfl (lv_at hl 0 rfl) ?_
        refine cV_i (As := []) (rest := [.int v_16]) ⟨hx, hb, hml, hown, hts⟩ (c_X4_goneNow l D cI cZ cM h0 ype ytk ywi yki yse yno yrh yrw yrk yrt yrp yrq ytx yle yat yfa yby ylo yhi yac ynx yro ygl ysn yso ysp ysw ysd yik ykp Fno _ (show 0 ≤ ytk.toInt ∧ ytk.toInt ≤ 6 by omega)) (cwV 0 hts gX4_losses_X4_goneNow rfl rfl rfl (by decide +kernel) ⟨by rw [hR]; decide, by rw [hR]; decide⟩) hK hP hD hS hA [0, 1] [2, 3, 4, 5, 6] rfl rfl (by decide) (by decide) (by decide) rfl 0 rfl hl.1 rfl rfl (Nat.le_of_ble_eq_true rfl) dX4_losses_46 ⟨by rw [hR]; decide, by rw [hR]; decide⟩ (fun r_17 u_18 H locs hw hP hD hS => ?_)
        have hP : va_P D vwCl [(h0, .inr (4, [.int ype, .int ytk, .ref ywi, .ref yki, .ref yse, .ref yno, .ref yrh, .ref yrw, .ref yrk, .ref yrt, .int yrp, .int yrq, .ref ytx, .int yle, .int yat, .int yfa, .ref yby, .ref ylo, .ref yhi, .int yac, .int ynx, .ref yro, .ref ygl, .int ysn, .ref yso, .ref ysp, .ref ysw, .long ysd, .ref yik, .ref ykp])), (yno, .inl (cI, 96, .inl Fno)), (yki, .inl (cI, 5, .inl Fki)), (yby, .inl (cI, 5, .inl Fby)), (ylo, .inl (cI, 5, .inl Flo)), (yhi, .inl (cI, 5, .inl Fhi)), (ywi, .inl (cI, 5, .inl Fwi))] H := hP.sub [5, 6, 0, 1, 2, 3, 4] rfl
        have hD : va_D A [(h0, .inr (4, [.int ype, .int ytk, .ref ywi, .ref yki, .ref yse, .ref yno, .ref yrh, .ref yrw, .ref yrk, .ref yrt, .int yrp, .int yrq, .ref ytx, .int yle, .int yat, .int yfa, .ref yby, .ref ylo, .ref yhi, .int yac, .int ynx, .ref yro, .ref ygl, .int ysn, .ref yso, .ref ysp, .ref ysw, .long ysd, .ref yik, .ref ykp])), (yno, .inl (cI, 96, .inl Fno)), (yki, .inl (cI, 5, .inl Fki)), (yby, .inl (cI, 5, .inl Fby)), (ylo, .inl (cI, 5, .inl Flo)), (yhi, .inl (cI, 5, .inl Fhi)), (ywi, .inl (cI, 5, .inl Fwi))] := hD.sub [5, 6, 0, 1, 2, 3, 4] (by decide) rfl
        refine W.widen (k := 0) (n := 0) (Nat.le_refl _) (Nat.le_refl _) ?_
        refine lv_iconst (v := (-1)) hx hb dX4_losses_49 (by decide) ?_
        refine lv_ixor hx hb dX4_losses_50 ?_
        refine lv_topi (fun v_19 ev_19 => ?_)
        refine lv_iand hx hb dX4_losses_51 ?_
        refine lv_topi (fun v_20 ev_20 => ?_)
        obtain ⟨hv_20a, hv_20b⟩ := and_bd (show 0 ≤ v_16.toInt by omega) ev_20
        refine lv_istore (lv' := [(5, .int v_20), (0, .ref h0), (1, .int n), (2, .int k), (3, .int j), (4, .int z)]) hx hb dX4_losses_52 hl (by decide) rfl (fun ls hl => ?_)
        refine lv_iconst (v := 0) hx hb dX4_losses_54 (by decide) ?_
        refine lv_istore (lv' := [(6, .int 0), (5, .int v_20), (0, .ref h0), (1, .int n), (2, .int k), (3, .int j), (4, .int z)]) hx hb dX4_losses_55 hl (by decide) rfl (fun ls hl => ?_)
        refine lv_iconst (v := 0) hx hb dX4_losses_57 (by decide) ?_
        refine lv_istore (lv' := [(7, .int 0), (6, .int 0), (5, .int v_20), (0, .ref h0), (1, .int n), (2, .int k), (3, .int j), (4, .int z)]) hx hb dX4_losses_58 hl (by decide) rfl (fun ls hl => ?_)
        refine lv_iconst (v := 0) hx hb dX4_losses_60 (by decide) ?_
        refine lv_istore (lv' := [(8, .int 0), (7, .int 0), (6, .int 0), (5, .int v_20), (0, .ref h0), (1, .int n), (2, .int k), (3, .int j), (4, .int z)]) hx hb dX4_losses_61 hl (by decide) rfl (fun ls hl => ?_)
        have LOOP_21 : ∀ (fu_21 : Nat) (w6 : Int32) (w7 : Int32) (x8 : Int32) (gn : Nat → Int32) (gb : Nat → Int32) (gl : Nat → Int32) (gh : Nat → Int32) (H : Heap) (locs : List Loc) (ls : Array Slot), (64 - x8.toInt).toNat < fu_21 → (0 ≤ w7.toInt ∧ w7.toInt ≤ 64000000) → (0 ≤ x8.toInt ∧ x8.toInt ≤ 64) → (ByOk gb) → (w7.toInt ≤ 1000000 * x8.toInt) → (j.toInt ≤ 9 → 1 ≤ x8.toInt → 1 ≤ w7.toInt) → (1 ≤ j.toInt → v_20.toInt < x8.toInt → 1 ≤ w7.toInt) → va_P D vwCl [(h0, .inr (4, [.int ype, .int ytk, .ref ywi, .ref yki, .ref yse, .ref yno, .ref yrh, .ref yrw, .ref yrk, .ref yrt, .int yrp, .int yrq, .ref ytx, .int yle, .int yat, .int yfa, .ref yby, .ref ylo, .ref yhi, .int yac, .int ynx, .ref yro, .ref ygl, .int ysn, .ref yso, .ref ysp, .ref ysw, .long ysd, .ref yik, .ref ykp])), (yno, .inl (cI, 96, .inl gn)), (yki, .inl (cI, 5, .inl Fki)), (yby, .inl (cI, 5, .inl gb)), (ylo, .inl (cI, 5, .inl gl)), (yhi, .inl (cI, 5, .inl gh)), (ywi, .inl (cI, 5, .inl Fwi))] H → va_D A [(h0, .inr (4, [.int ype, .int ytk, .ref ywi, .ref yki, .ref yse, .ref yno, .ref yrh, .ref yrw, .ref yrk, .ref yrt, .int yrp, .int yrq, .ref ytx, .int yle, .int yat, .int yfa, .ref yby, .ref ylo, .ref yhi, .int yac, .int ynx, .ref yro, .ref ygl, .int ysn, .ref yso, .ref ysp, .ref ysw, .long ysd, .ref yik, .ref ykp])), (yno, .inl (cI, 96, .inl gn)), (yki, .inl (cI, 5, .inl Fki)), (yby, .inl (cI, 5, .inl gb)), (ylo, .inl (cI, 5, .inl gl)), (yhi, .inl (cI, 5, .inl gh)), (ywi, .inl (cI, 5, .inl Fwi))] → va_S A s.heap H locs → lv_has ls 11 [(0, .ref h0), (1, .int n), (2, .int k), (3, .int j), (4, .int z), (5, .int v_20), (6, .int w6), (7, .int w7), (8, .int x8)] → W p l e R s m args below meth c H locs 0 0 Q (F0 m 63 ls []) := by
          intro fu_21
          induction fu_21 with
          | zero => intro w6 w7 x8 gn gb gl gh H locs ls hmu; exact absurd hmu (Nat.not_lt_zero _)
          | succ fu_21 ih =>
            intro w6 w7 x8 gn gb gl gh H locs ls hmu h_w7 h_x8 hby hl1 hl2 hl3 hP hD hS hl
            obtain ⟨h_w7a, h_w7b⟩ := h_w7
            obtain ⟨h_x8a, h_x8b⟩ := h_x8
            have ih_22 := ih
            clear ih
            refine lv_iload hx hb dX4_losses_63 (lv_at hl 8 rfl) ?_
            refine lv_iconst (v := 1) hx hb dX4_losses_65 (by decide) ?_
            refine lv_aload_n hx hb dX4_losses_66 rfl (lv_at hl 0 rfl) ?_
            refine va_get (D := D) (ci := 4) (v := .int ytk) (C := RX4) (T := TX4) (N := 30) hx hb hts iX4 hown hK hP 0 rfl rfl 1 (by decide) (hts (.fieldLink RX4 101 "PunchedTicketModel" "tickets" "I") (List.mem_of_getElem? (i := 3) rfl)) (fun _ h9 => h9) rfl dX4_losses_67 ?_
            refine lv_ishl hx hb dX4_losses_70 ?_
            refine lv_topi (fun v_23 ev_23 => ?_)
            have qv_23 : v_23.toInt = v_15.toInt := by rw [ev_23, ev_15]
            obtain ⟨hv_23a, hv_23b⟩ := sh1_bd (show 0 ≤ ytk.toInt by omega) (by omega) ev_23
            refine lv_icmp_ge (tgt := 186) hx hb dX4_losses_71 (by decide) (fun c_24 => ?_) (fun c_24 => ?_)
            · have tc_24 := b_le rfl rfl c_24
              have hw7 : 1 ≤ w7.toInt := by omega
              refine lv_iload hx hb dX4_losses_186 (lv_at hl 6 rfl) ?_
              refine lv_iload hx hb dX4_losses_188 (lv_at hl 7 rfl) ?_
              refine cS_i (As := [.int w6, .int w7]) (rest := []) ⟨hx, hb, hml, hown, hts⟩ (c_X4_common l D cI cZ cM w6 w7 _ (show w7.toInt ≠ 0 by omega)) (va_cwS 2 hts gX4_losses_X4_common rfl rfl rfl (by decide +kernel) ⟨by rw [hR]; decide, by rw [hR]; decide⟩) hK hP hD hS hA [] [0, 1, 2, 3, 4, 5, 6] rfl rfl (by decide) (by decide) (by decide) hl.1 rfl rfl (Nat.le_of_ble_eq_true rfl) dX4_losses_190 ⟨by rw [hR]; decide, by rw [hR]; decide⟩ (fun r_25 u_26 H locs hw hP hD hS => ?_)
              have hP : va_P D vwCl [(h0, .inr (4, [.int ype, .int ytk, .ref ywi, .ref yki, .ref yse, .ref yno, .ref yrh, .ref yrw, .ref yrk, .ref yrt, .int yrp, .int yrq, .ref ytx, .int yle, .int yat, .int yfa, .ref yby, .ref ylo, .ref yhi, .int yac, .int ynx, .ref yro, .ref ygl, .int ysn, .ref yso, .ref ysp, .ref ysw, .long ysd, .ref yik, .ref ykp])), (yno, .inl (cI, 96, .inl gn)), (yki, .inl (cI, 5, .inl Fki)), (yby, .inl (cI, 5, .inl gb)), (ylo, .inl (cI, 5, .inl gl)), (yhi, .inl (cI, 5, .inl gh)), (ywi, .inl (cI, 5, .inl Fwi))] H := hP.sub [0, 1, 2, 3, 4, 5, 6] rfl
              have hD : va_D A [(h0, .inr (4, [.int ype, .int ytk, .ref ywi, .ref yki, .ref yse, .ref yno, .ref yrh, .ref yrw, .ref yrk, .ref yrt, .int yrp, .int yrq, .ref ytx, .int yle, .int yat, .int yfa, .ref yby, .ref ylo, .ref yhi, .int yac, .int ynx, .ref yro, .ref ygl, .int ysn, .ref yso, .ref ysp, .ref ysw, .long ysd, .ref yik, .ref ykp])), (yno, .inl (cI, 96, .inl gn)), (yki, .inl (cI, 5, .inl Fki)), (yby, .inl (cI, 5, .inl gb)), (ylo, .inl (cI, 5, .inl gl)), (yhi, .inl (cI, 5, .inl gh)), (ywi, .inl (cI, 5, .inl Fwi))] := hD.sub [0, 1, 2, 3, 4, 5, 6] (by decide) rfl
              refine W.widen (k := 0) (n := 0) (Nat.le_refl _) (Nat.le_refl _) ?_
              have hw : r_25.toInt ≠ 0 := hw
              have hw_27 := hw
              refine lv_istore (lv' := [(8, .int r_25), (0, .ref h0), (1, .int n), (2, .int k), (3, .int j), (4, .int z), (5, .int v_20), (6, .int w6), (7, .int w7)]) hx hb dX4_losses_193 hl (by decide) rfl (fun ls hl => ?_)
              refine lv_iload hx hb dX4_losses_195 (lv_at hl 5 rfl) ?_
              refine lv_if_eq (tgt := 208) hx hb dX4_losses_197 (by decide) (fun c_28 => ?_) (fun c_28 => ?_)
              · have tc_28 := b_eq rfl (show (0 : Int32).toInt = 0 by decide) c_28
                refine lv_iload hx hb dX4_losses_208 (lv_at hl 8 rfl) ?_
                refine lv_iload hx hb dX4_losses_210 (lv_at hl 0 rfl) ?_
                refine lv_idiv hx hb dX4_losses_212 (fun z0 => absurd (b_eq rfl (show (0 : Int32).toInt = 0 by decide) z0) (show r_25.toInt ≠ 0 by omega)) ?_
                refine lv_topi (fun v_29 ev_29 => ?_)
                exact ret_i (post := (fun (r : Int32) (u : (Nat → Int32) × (Nat → Int32) × (Nat → Int32) × (Nat → Int32)) => ByOk u.2.1)) (W1 := (fun u => [(h0, .inr (4, [.int ype, .int ytk, .ref ywi, .ref yki, .ref yse, .ref yno, .ref yrh, .ref yrw, .ref yrk, .ref yrt, .int yrp, .int yrq, .ref ytx, .int yle, .int yat, .int yfa, .ref yby, .ref ylo, .ref yhi, .int yac, .int ynx, .ref yro, .ref ygl, .int ysn, .ref yso, .ref ysp, .ref ysw, .long ysd, .ref yik, .ref ykp])), (yno, .inl (cI, 96, .inl u.1)), (yki, .inl (cI, 5, .inl Fki)), (yby, .inl (cI, 5, .inl u.2.1)), (ylo, .inl (cI, 5, .inl u.2.2.1)), (yhi, .inl (cI, 5, .inl u.2.2.2)), (ywi, .inl (cI, 5, .inl Fwi))])) (gn, gb, gl, gh) hx hb hr hlocks rfl hQ hK hP hD hS ⟨by decide, by decide⟩ dX4_losses_213 hby
              · have tc_28 := b_ne rfl (show (0 : Int32).toInt = 0 by decide) c_28
                refine lv_iload hx hb dX4_losses_200 (lv_at hl 7 rfl) ?_
                refine lv_iload hx hb dX4_losses_202 (lv_at hl 0 rfl) ?_
                refine lv_idiv hx hb dX4_losses_204 (fun z0 => absurd (b_eq rfl (show (0 : Int32).toInt = 0 by decide) z0) (show r_25.toInt ≠ 0 by omega)) ?_
                refine lv_topi (fun v_30 ev_30 => ?_)
                refine lv_goto (tgt := 213) hx hb dX4_losses_205 (by decide) ?_
                exact ret_i (post := (fun (r : Int32) (u : (Nat → Int32) × (Nat → Int32) × (Nat → Int32) × (Nat → Int32)) => ByOk u.2.1)) (W1 := (fun u => [(h0, .inr (4, [.int ype, .int ytk, .ref ywi, .ref yki, .ref yse, .ref yno, .ref yrh, .ref yrw, .ref yrk, .ref yrt, .int yrp, .int yrq, .ref ytx, .int yle, .int yat, .int yfa, .ref yby, .ref ylo, .ref yhi, .int yac, .int ynx, .ref yro, .ref ygl, .int ysn, .ref yso, .ref ysp, .ref ysw, .long ysd, .ref yik, .ref ykp])), (yno, .inl (cI, 96, .inl u.1)), (yki, .inl (cI, 5, .inl Fki)), (yby, .inl (cI, 5, .inl u.2.1)), (ylo, .inl (cI, 5, .inl u.2.2.1)), (yhi, .inl (cI, 5, .inl u.2.2.2)), (ywi, .inl (cI, 5, .inl Fwi))])) (gn, gb, gl, gh) hx hb hr hlocks rfl hQ hK hP hD hS ⟨by decide, by decide⟩ dX4_losses_213 hby
            · have tc_24 := b_nle rfl rfl c_24
              refine lv_iload hx hb dX4_losses_74 (lv_at hl 8 rfl) ?_
              refine lv_iload hx hb dX4_losses_76 (lv_at hl 5 rfl) ?_
              refine lv_iconst (v := (-1)) hx hb dX4_losses_78 (by decide) ?_
              refine lv_ixor hx hb dX4_losses_79 ?_
              refine lv_topi (fun v_31 ev_31 => ?_)
              refine lv_iand hx hb dX4_losses_80 ?_
              refine lv_topi (fun v_32 ev_32 => ?_)
              have HZ := and_not ev_31 ev_32
              refine lv_if_ne (tgt := 180) hx hb dX4_losses_81 (by decide) (fun c_33 => ?_) (fun c_33 => ?_)
              · have tc_33 := b_ne rfl (show (0 : Int32).toInt = 0 by decide) c_33
                obtain ⟨v_34, ev_34⟩ : ∃ z : Int32, z = x8 + 1 := ⟨_, rfl⟩
                have tv_34 : v_34.toInt = x8.toInt + 1 := by rw [ev_34]; exact ti_add (x := x8) (y := 1) (show -2147483648 ≤ x8.toInt + 1 by omega) (show x8.toInt + 1 < 2147483648 by omega)
                refine lv_iinc (v := v_34) (lv' := [(8, .int v_34), (0, .ref h0), (1, .int n), (2, .int k), (3, .int j), (4, .int z), (5, .int v_20), (6, .int w6), (7, .int w7)]) hx hb dX4_losses_180 hl (k := 8) rfl (by rw [ev_34]; rfl) (by decide) rfl (fun ls hl => ?_)
                refine lv_goto (tgt := 63) hx hb dX4_losses_183 (by decide) ?_
                exact ih_22 w6 w7 v_34 gn gb gl gh _ _ _ (show (64 - v_34.toInt).toNat < fu_21 by omega) (show 0 ≤ w7.toInt ∧ w7.toInt ≤ 64000000 by omega) (show 0 ≤ v_34.toInt ∧ v_34.toInt ≤ 64 by omega) (hby) (show w7.toInt ≤ 1000000 * v_34.toInt by omega) (show j.toInt ≤ 9 → 1 ≤ v_34.toInt → 1 ≤ w7.toInt by omega) (show 1 ≤ j.toInt → v_20.toInt < v_34.toInt → 1 ≤ w7.toInt by omega) hP hD hS (lv_sub hl [1, 2, 3, 4, 5, 6, 7, 8, 0] rfl)
              · have tc_33 := b_eq rfl (show (0 : Int32).toInt = 0 by decide) c_33
                refine lv_iconst (v := 1) hx hb dX4_losses_84 (by decide) ?_
                refine lv_istore (lv' := [(9, .int 1), (0, .ref h0), (1, .int n), (2, .int k), (3, .int j), (4, .int z), (5, .int v_20), (6, .int w6), (7, .int w7), (8, .int x8)]) hx hb dX4_losses_85 hl (by decide) rfl (fun ls hl => ?_)
                refine lv_iconst (v := 0) hx hb dX4_losses_87 (by decide) ?_
                refine lv_istore (lv' := [(10, .int 0), (9, .int 1), (0, .ref h0), (1, .int n), (2, .int k), (3, .int j), (4, .int z), (5, .int v_20), (6, .int w6), (7, .int w7), (8, .int x8)]) hx hb dX4_losses_88 hl (by decide) rfl (fun ls hl => ?_)
                have LOOP_35 : ∀ (fu_35 : Nat) (w9 : Int32) (x10 : Int32) (H : Heap) (locs : List Loc) (ls : Array Slot), (6 - x10.toInt).toNat < fu_35 → (0 ≤ w9.toInt ∧ w9.toInt ≤ 1000000) → (0 ≤ x10.toInt ∧ x10.toInt ≤ 6) → (w9.toInt ≤ (10 : Int) ^ x10.toInt.toNat) → (((j.toInt ≤ 9 ∧ x8.toInt = 0) ∨ (1 ≤ j.toInt ∧ x8.toInt = v_20.toInt)) → 1 ≤ w9.toInt) → va_P D vwCl [(h0, .inr (4, [.int ype, .int ytk, .ref ywi, .ref yki, .ref yse, .ref yno, .ref yrh, .ref yrw, .ref yrk, .ref yrt, .int yrp, .int yrq, .ref ytx, .int yle, .int yat, .int yfa, .ref yby, .ref ylo, .ref yhi, .int yac, .int ynx, .ref yro, .ref ygl, .int ysn, .ref yso, .ref ysp, .ref ysw, .long ysd, .ref yik, .ref ykp])), (yno, .inl (cI, 96, .inl gn)), (yki, .inl (cI, 5, .inl Fki)), (yby, .inl (cI, 5, .inl gb)), (ylo, .inl (cI, 5, .inl gl)), (yhi, .inl (cI, 5, .inl gh)), (ywi, .inl (cI, 5, .inl Fwi))] H → va_D A [(h0, .inr (4, [.int ype, .int ytk, .ref ywi, .ref yki, .ref yse, .ref yno, .ref yrh, .ref yrw, .ref yrk, .ref yrt, .int yrp, .int yrq, .ref ytx, .int yle, .int yat, .int yfa, .ref yby, .ref ylo, .ref yhi, .int yac, .int ynx, .ref yro, .ref ygl, .int ysn, .ref yso, .ref ysp, .ref ysw, .long ysd, .ref yik, .ref ykp])), (yno, .inl (cI, 96, .inl gn)), (yki, .inl (cI, 5, .inl Fki)), (yby, .inl (cI, 5, .inl gb)), (ylo, .inl (cI, 5, .inl gl)), (yhi, .inl (cI, 5, .inl gh)), (ywi, .inl (cI, 5, .inl Fwi))] → va_S A s.heap H locs → lv_has ls 11 [(0, .ref h0), (1, .int n), (2, .int k), (3, .int j), (4, .int z), (5, .int v_20), (6, .int w6), (7, .int w7), (8, .int x8), (9, .int w9), (10, .int x10)] → W p l e R s m args below meth c H locs 0 0 Q (F0 m 90 ls []) := by
                  intro fu_35
                  induction fu_35 with
                  | zero => intro w9 x10 H locs ls hmu; exact absurd hmu (Nat.not_lt_zero _)
                  | succ fu_35 ih =>
                    intro w9 x10 H locs ls hmu h_w9 h_x10 hp10 hps hP hD hS hl
                    obtain ⟨h_w9a, h_w9b⟩ := h_w9
                    obtain ⟨h_x10a, h_x10b⟩ := h_x10
                    have ih_36 := ih
                    clear ih
                    refine lv_iload hx hb dX4_losses_90 (lv_at hl 10 rfl) ?_
                    refine lv_aload_n hx hb dX4_losses_92 rfl (lv_at hl 0 rfl) ?_
                    refine va_get (D := D) (ci := 4) (v := .int ytk) (C := RX4) (T := TX4) (N := 30) hx hb hts iX4 hown hK hP 0 rfl rfl 1 (by decide) (hts (.fieldLink RX4 101 "PunchedTicketModel" "tickets" "I") (List.mem_of_getElem? (i := 3) rfl)) (fun _ h9 => h9) rfl dX4_losses_93 ?_
                    refine lv_icmp_ge (tgt := 142) hx hb dX4_losses_96 (by decide) (fun c_37 => ?_) (fun c_37 => ?_)
                    · have tc_37 := b_le rfl rfl c_37
                      refine lv_aload_n hx hb dX4_losses_142 rfl (lv_at hl 0 rfl) ?_
                      refine lv_iload hx hb dX4_losses_143 (lv_at hl 8 rfl) ?_
                      refine cV_i (As := [.int x8]) (rest := []) ⟨hx, hb, hml, hown, hts⟩ (c_X4_gladWithout l D cI cZ cM h0 x8 ype ytk ywi yki yse yno yrh yrw yrk yrt yrp yrq ytx yle yat yfa yby ylo yhi yac ynx yro ygl ysn yso ysp ysw ysd yik ykp gn Fki gb gl gh Fwi _ hby (show 0 ≤ ype.toInt ∧ ype.toInt ≤ 5 by omega) (show 0 ≤ ytk.toInt ∧ ytk.toInt ≤ 6 by omega)) (cwV 1 hts gX4_losses_X4_gladWithout rfl rfl rfl (by decide +kernel) ⟨by rw [hR]; decide, by rw [hR]; decide⟩) hK hP hD hS hA [0, 1, 2, 3, 4, 5, 6] [] rfl rfl (by decide) (by decide) (by decide) rfl 0 rfl hl.1 rfl rfl (Nat.le_of_ble_eq_true rfl) dX4_losses_145 ⟨by rw [hR]; decide, by rw [hR]; decide⟩ (fun r_42 u_43 H locs hw hP hD hS => ?_)
                      obtain ⟨Gno_38, Gby_39, Glo_40, Ghi_41⟩ := u_43
                      have hP : va_P D vwCl [(h0, .inr (4, [.int ype, .int ytk, .ref ywi, .ref yki, .ref yse, .ref yno, .ref yrh, .ref yrw, .ref yrk, .ref yrt, .int yrp, .int yrq, .ref ytx, .int yle, .int yat, .int yfa, .ref yby, .ref ylo, .ref yhi, .int yac, .int ynx, .ref yro, .ref ygl, .int ysn, .ref yso, .ref ysp, .ref ysw, .long ysd, .ref yik, .ref ykp])), (yno, .inl (cI, 96, .inl Gno_38)), (yki, .inl (cI, 5, .inl Fki)), (yby, .inl (cI, 5, .inl Gby_39)), (ylo, .inl (cI, 5, .inl Glo_40)), (yhi, .inl (cI, 5, .inl Ghi_41)), (ywi, .inl (cI, 5, .inl Fwi))] H := hP.sub [0, 1, 2, 3, 4, 5, 6] rfl
                      have hD : va_D A [(h0, .inr (4, [.int ype, .int ytk, .ref ywi, .ref yki, .ref yse, .ref yno, .ref yrh, .ref yrw, .ref yrk, .ref yrt, .int yrp, .int yrq, .ref ytx, .int yle, .int yat, .int yfa, .ref yby, .ref ylo, .ref yhi, .int yac, .int ynx, .ref yro, .ref ygl, .int ysn, .ref yso, .ref ysp, .ref ysw, .long ysd, .ref yik, .ref ykp])), (yno, .inl (cI, 96, .inl Gno_38)), (yki, .inl (cI, 5, .inl Fki)), (yby, .inl (cI, 5, .inl Gby_39)), (ylo, .inl (cI, 5, .inl Glo_40)), (yhi, .inl (cI, 5, .inl Ghi_41)), (ywi, .inl (cI, 5, .inl Fwi))] := hD.sub [0, 1, 2, 3, 4, 5, 6] (by decide) rfl
                      refine W.widen (k := 0) (n := 0) (Nat.le_refl _) (Nat.le_refl _) ?_
                      have hw : ByOk Gby_39 := hw
                      have hw_44 := hw
                      have PBY := hw_44
                      refine lv_pop hx hb dX4_losses_148 rfl ?_
                      refine lv_iload hx hb dX4_losses_149 (lv_at hl 7 rfl) ?_
                      refine lv_iload hx hb dX4_losses_151 (lv_at hl 9 rfl) ?_
                      refine lv_iadd hx hb dX4_losses_153 ?_
                      refine lv_topi (fun v_45 ev_45 => ?_)
                      have tv_45 : v_45.toInt = w7.toInt + w9.toInt := by rw [ev_45]; exact ti_add (x := w7) (y := w9) (show -2147483648 ≤ w7.toInt + w9.toInt by omega) (show w7.toInt + w9.toInt < 2147483648 by omega)
                      refine lv_istore (lv' := [(7, .int v_45), (0, .ref h0), (1, .int n), (2, .int k), (3, .int j), (4, .int z), (5, .int v_20), (6, .int w6), (8, .int x8), (9, .int w9), (10, .int x10)]) hx hb dX4_losses_154 hl (by decide) rfl (fun ls hl => ?_)
                      refine lv_iload hx hb dX4_losses_156 (lv_at hl 7 rfl) ?_
                      refine lv_aload_n hx hb dX4_losses_158 rfl (lv_at hl 1 rfl) ?_
                      refine va_get (D := D) (ci := 4) (v := .ref yno) (C := RX4) (T := TX4) (N := 30) hx hb hts iX4 hown hK hP 0 rfl rfl 5 (by decide) (hts (.fieldLink RX4 19 "PunchedTicketModel" "now" "[I") (List.mem_of_getElem? (i := 4) rfl)) (fun _ h9 => h9) rfl dX4_losses_159 ?_
                      refine lv_bipush (v := 49) hx hb dX4_losses_162 (by decide) ?_
                      refine lv_iload_n hx hb dX4_losses_164 rfl (lv_at hl 2 rfl) ?_
                      refine lv_iadd hx hb dX4_losses_165 ?_
                      refine lv_topi (fun v_46 ev_46 => ?_)
                      have tv_46 : v_46.toInt = (49 : Int) + n.toInt := by rw [ev_46]; exact ti_add (x := 49) (y := n) (show -2147483648 ≤ (49 : Int) + n.toInt by omega) (show (49 : Int) + n.toInt < 2147483648 by omega)
                      refine va_iald hx hb hK hP 1 0 rfl rfl (vp_in_iff.mpr ⟨by omega, by omega⟩) dX4_losses_166 ?_
                      refine lv_topi (fun v_47 ev_47 => ?_)
                      refine lv_iload_n hx hb dX4_losses_167 rfl (lv_at hl 3 rfl) ?_
                      refine lv_icmp_ne (tgt := 176) hx hb dX4_losses_168 (by decide) (fun c_48 => ?_) (fun c_48 => ?_)
                      · have tc_48 := b_ne rfl rfl c_48
                        refine lv_iconst (v := 0) hx hb dX4_losses_176 (by decide) ?_
                        refine lv_iadd hx hb dX4_losses_177 ?_
                        refine lv_topi (fun v_49 ev_49 => ?_)
                        have bdv_49w6 := ti_bd w6
                        have tv_49 : v_49.toInt = w6.toInt + (0 : Int) := by rw [ev_49]; exact ti_add (x := w6) (y := 0) (show -2147483648 ≤ w6.toInt + (0 : Int) by omega) (show w6.toInt + (0 : Int) < 2147483648 by omega)
                        refine lv_istore (lv' := [(6, .int v_49), (7, .int v_45), (0, .ref h0), (1, .int n), (2, .int k), (3, .int j), (4, .int z), (5, .int v_20), (8, .int x8), (9, .int w9), (10, .int x10)]) hx hb dX4_losses_178 hl (by decide) rfl (fun ls hl => ?_)
                        obtain ⟨v_50, ev_50⟩ : ∃ z : Int32, z = x8 + 1 := ⟨_, rfl⟩
                        have tv_50 : v_50.toInt = x8.toInt + 1 := by rw [ev_50]; exact ti_add (x := x8) (y := 1) (show -2147483648 ≤ x8.toInt + 1 by omega) (show x8.toInt + 1 < 2147483648 by omega)
                        refine lv_iinc (v := v_50) (lv' := [(8, .int v_50), (6, .int v_49), (7, .int v_45), (0, .ref h0), (1, .int n), (2, .int k), (3, .int j), (4, .int z), (5, .int v_20), (9, .int w9), (10, .int x10)]) hx hb dX4_losses_180 hl (k := 8) rfl (by rw [ev_50]; rfl) (by decide) rfl (fun ls hl => ?_)
                        refine lv_goto (tgt := 63) hx hb dX4_losses_183 (by decide) ?_
                        exact ih_22 v_49 v_45 v_50 Gno_38 Gby_39 Glo_40 Ghi_41 _ _ _ (show (64 - v_50.toInt).toNat < fu_21 by omega) (show 0 ≤ v_45.toInt ∧ v_45.toInt ≤ 64000000 by omega) (show 0 ≤ v_50.toInt ∧ v_50.toInt ≤ 64 by omega) (PBY) (show v_45.toInt ≤ 1000000 * v_50.toInt by omega) (show j.toInt ≤ 9 → 1 ≤ v_50.toInt → 1 ≤ v_45.toInt by omega) (show 1 ≤ j.toInt → v_20.toInt < v_50.toInt → 1 ≤ v_45.toInt by omega) hP hD hS (lv_sub hl [3, 4, 5, 6, 7, 8, 1, 2, 0] rfl)
                      · have tc_48 := b_eq rfl rfl c_48
                        refine lv_iload hx hb dX4_losses_171 (lv_at hl 9 rfl) ?_
                        refine lv_goto (tgt := 177) hx hb dX4_losses_173 (by decide) ?_
                        refine lv_iadd hx hb dX4_losses_177 ?_
                        refine lv_topi (fun v_51 ev_51 => ?_)
                        refine lv_istore (lv' := [(6, .int v_51), (7, .int v_45), (0, .ref h0), (1, .int n), (2, .int k), (3, .int j), (4, .int z), (5, .int v_20), (8, .int x8), (9, .int w9), (10, .int x10)]) hx hb dX4_losses_178 hl (by decide) rfl (fun ls hl => ?_)
                        obtain ⟨v_52, ev_52⟩ : ∃ z : Int32, z = x8 + 1 := ⟨_, rfl⟩
                        have tv_52 : v_52.toInt = x8.toInt + 1 := by rw [ev_52]; exact ti_add (x := x8) (y := 1) (show -2147483648 ≤ x8.toInt + 1 by omega) (show x8.toInt + 1 < 2147483648 by omega)
                        refine lv_iinc (v := v_52) (lv' := [(8, .int v_52), (6, .int v_51), (7, .int v_45), (0, .ref h0), (1, .int n), (2, .int k), (3, .int j), (4, .int z), (5, .int v_20), (9, .int w9), (10, .int x10)]) hx hb dX4_losses_180 hl (k := 8) rfl (by rw [ev_52]; rfl) (by decide) rfl (fun ls hl => ?_)
                        refine lv_goto (tgt := 63) hx hb dX4_losses_183 (by decide) ?_
                        exact ih_22 v_51 v_45 v_52 Gno_38 Gby_39 Glo_40 Ghi_41 _ _ _ (show (64 - v_52.toInt).toNat < fu_21 by omega) (show 0 ≤ v_45.toInt ∧ v_45.toInt ≤ 64000000 by omega) (show 0 ≤ v_52.toInt ∧ v_52.toInt ≤ 64 by omega) (PBY) (show v_45.toInt ≤ 1000000 * v_52.toInt by omega) (show j.toInt ≤ 9 → 1 ≤ v_52.toInt → 1 ≤ v_45.toInt by omega) (show 1 ≤ j.toInt → v_20.toInt < v_52.toInt → 1 ≤ v_45.toInt by omega) hP hD hS (lv_sub hl [3, 4, 5, 6, 7, 8, 1, 2, 0] rfl)
                    · have tc_37 := b_nle rfl rfl c_37
                      refine lv_iload hx hb dX4_losses_99 (lv_at hl 9 rfl) ?_
                      refine lv_iload hx hb dX4_losses_101 (lv_at hl 5 rfl) ?_
                      refine lv_iload hx hb dX4_losses_103 (lv_at hl 10 rfl) ?_
                      refine cS_i (As := [.int v_20, .int x10]) (rest := [.int w9]) ⟨hx, hb, hml, hown, hts⟩ (c_X4_has2 l D cI cZ cM v_20 x10 _ ) (va_cwS 2 hts gX4_losses_X4_has rfl rfl rfl (by decide +kernel) ⟨by rw [hR]; decide, by rw [hR]; decide⟩) hK hP hD hS hA [] [0, 1, 2, 3, 4, 5, 6] rfl rfl (by decide) (by decide) (by decide) hl.1 rfl rfl (Nat.le_of_ble_eq_true rfl) dX4_losses_105 ⟨by rw [hR]; decide, by rw [hR]; decide⟩ (fun r_53 u_54 H locs hw hP hD hS => ?_)
                      have hP : va_P D vwCl [(h0, .inr (4, [.int ype, .int ytk, .ref ywi, .ref yki, .ref yse, .ref yno, .ref yrh, .ref yrw, .ref yrk, .ref yrt, .int yrp, .int yrq, .ref ytx, .int yle, .int yat, .int yfa, .ref yby, .ref ylo, .ref yhi, .int yac, .int ynx, .ref yro, .ref ygl, .int ysn, .ref yso, .ref ysp, .ref ysw, .long ysd, .ref yik, .ref ykp])), (yno, .inl (cI, 96, .inl gn)), (yki, .inl (cI, 5, .inl Fki)), (yby, .inl (cI, 5, .inl gb)), (ylo, .inl (cI, 5, .inl gl)), (yhi, .inl (cI, 5, .inl gh)), (ywi, .inl (cI, 5, .inl Fwi))] H := hP.sub [0, 1, 2, 3, 4, 5, 6] rfl
                      have hD : va_D A [(h0, .inr (4, [.int ype, .int ytk, .ref ywi, .ref yki, .ref yse, .ref yno, .ref yrh, .ref yrw, .ref yrk, .ref yrt, .int yrp, .int yrq, .ref ytx, .int yle, .int yat, .int yfa, .ref yby, .ref ylo, .ref yhi, .int yac, .int ynx, .ref yro, .ref ygl, .int ysn, .ref yso, .ref ysp, .ref ysw, .long ysd, .ref yik, .ref ykp])), (yno, .inl (cI, 96, .inl gn)), (yki, .inl (cI, 5, .inl Fki)), (yby, .inl (cI, 5, .inl gb)), (ylo, .inl (cI, 5, .inl gl)), (yhi, .inl (cI, 5, .inl gh)), (ywi, .inl (cI, 5, .inl Fwi))] := hD.sub [0, 1, 2, 3, 4, 5, 6] (by decide) rfl
                      refine W.widen (k := 0) (n := 0) (Nat.le_refl _) (Nat.le_refl _) ?_
                      have hw : (r_53.toInt = 1 ∧ bitOf v_20 x10 = 1) ∨ (r_53.toInt = 0 ∧ bitOf v_20 x10 ≠ 1) := hw
                      have hw_55 := hw
                      refine lv_if_ne (tgt := 115) hx hb dX4_losses_108 (by decide) (fun c_56 => ?_) (fun c_56 => ?_)
                      · have tc_56 := b_ne rfl (show (0 : Int32).toInt = 0 by decide) c_56
                        refine lv_iload hx hb dX4_losses_115 (lv_at hl 8 rfl) ?_
                        refine lv_iload hx hb dX4_losses_117 (lv_at hl 10 rfl) ?_
                        refine cS_i (As := [.int x8, .int x10]) (rest := [.int w9]) ⟨hx, hb, hml, hown, hts⟩ (c_X4_has2 l D cI cZ cM x8 x10 _ ) (va_cwS 2 hts gX4_losses_X4_has rfl rfl rfl (by decide +kernel) ⟨by rw [hR]; decide, by rw [hR]; decide⟩) hK hP hD hS hA [] [0, 1, 2, 3, 4, 5, 6] rfl rfl (by decide) (by decide) (by decide) hl.1 rfl rfl (Nat.le_of_ble_eq_true rfl) dX4_losses_119 ⟨by rw [hR]; decide, by rw [hR]; decide⟩ (fun r_57 u_58 H locs hw hP hD hS => ?_)
                        have hP : va_P D vwCl [(h0, .inr (4, [.int ype, .int ytk, .ref ywi, .ref yki, .ref yse, .ref yno, .ref yrh, .ref yrw, .ref yrk, .ref yrt, .int yrp, .int yrq, .ref ytx, .int yle, .int yat, .int yfa, .ref yby, .ref ylo, .ref yhi, .int yac, .int ynx, .ref yro, .ref ygl, .int ysn, .ref yso, .ref ysp, .ref ysw, .long ysd, .ref yik, .ref ykp])), (yno, .inl (cI, 96, .inl gn)), (yki, .inl (cI, 5, .inl Fki)), (yby, .inl (cI, 5, .inl gb)), (ylo, .inl (cI, 5, .inl gl)), (yhi, .inl (cI, 5, .inl gh)), (ywi, .inl (cI, 5, .inl Fwi))] H := hP.sub [0, 1, 2, 3, 4, 5, 6] rfl
                        have hD : va_D A [(h0, .inr (4, [.int ype, .int ytk, .ref ywi, .ref yki, .ref yse, .ref yno, .ref yrh, .ref yrw, .ref yrk, .ref yrt, .int yrp, .int yrq, .ref ytx, .int yle, .int yat, .int yfa, .ref yby, .ref ylo, .ref yhi, .int yac, .int ynx, .ref yro, .ref ygl, .int ysn, .ref yso, .ref ysp, .ref ysw, .long ysd, .ref yik, .ref ykp])), (yno, .inl (cI, 96, .inl gn)), (yki, .inl (cI, 5, .inl Fki)), (yby, .inl (cI, 5, .inl gb)), (ylo, .inl (cI, 5, .inl gl)), (yhi, .inl (cI, 5, .inl gh)), (ywi, .inl (cI, 5, .inl Fwi))] := hD.sub [0, 1, 2, 3, 4, 5, 6] (by decide) rfl
                        refine W.widen (k := 0) (n := 0) (Nat.le_refl _) (Nat.le_refl _) ?_
                        have hw : (r_57.toInt = 1 ∧ bitOf x8 x10 = 1) ∨ (r_57.toInt = 0 ∧ bitOf x8 x10 ≠ 1) := hw
                        have hw_59 := hw
                        refine lv_if_eq (tgt := 129) hx hb dX4_losses_122 (by decide) (fun c_60 => ?_) (fun c_60 => ?_)
                        · have tc_60 := b_eq rfl (show (0 : Int32).toInt = 0 by decide) c_60
                          refine lv_bipush (v := 10) hx hb dX4_losses_129 (by decide) ?_
                          refine lv_iload_n hx hb dX4_losses_131 rfl (lv_at hl 3 rfl) ?_
                          refine lv_isub hx hb dX4_losses_132 ?_
                          refine lv_topi (fun v_61 ev_61 => ?_)
                          have tv_61 : v_61.toInt = (10 : Int) - j.toInt := by rw [ev_61]; exact ti_sub (x := 10) (y := j) (show -2147483648 ≤ (10 : Int) - j.toInt by omega) (show (10 : Int) - j.toInt < 2147483648 by omega)
                          refine lv_imul hx hb dX4_losses_133 ?_
                          refine lv_topi (fun v_62 ev_62 => ?_)
                          have HF : ((j.toInt ≤ 9 ∧ x8.toInt = 0) ∨ (1 ≤ j.toInt ∧ x8.toInt = v_20.toInt)) → 1 ≤ v_61.toInt := by
                            intro hp
                            rcases hp with ⟨h9, _⟩ | ⟨_, h8⟩
                            · omega
                            · exact absurd (by rw [show x8 = v_20 from Int32.toInt_inj.mp h8]; exact (hw_55.resolve_right (fun q => absurd q.1 (by omega))).2) (hw_59.resolve_left (fun q => absurd q.1 (by omega))).2
                          obtain ⟨HPa, HPb, HPc, HPd⟩ := mulP (w := w9) (f := v_61) (v := v_62) (x := x10) (by omega) hp10 (by omega) (by omega) (by omega) ev_62
                          refine lv_istore (lv' := [(9, .int v_62), (0, .ref h0), (1, .int n), (2, .int k), (3, .int j), (4, .int z), (5, .int v_20), (6, .int w6), (7, .int w7), (8, .int x8), (10, .int x10)]) hx hb dX4_losses_134 hl (by decide) rfl (fun ls hl => ?_)
                          obtain ⟨v_63, ev_63⟩ : ∃ z : Int32, z = x10 + 1 := ⟨_, rfl⟩
                          have tv_63 : v_63.toInt = x10.toInt + 1 := by rw [ev_63]; exact ti_add (x := x10) (y := 1) (show -2147483648 ≤ x10.toInt + 1 by omega) (show x10.toInt + 1 < 2147483648 by omega)
                          refine lv_iinc (v := v_63) (lv' := [(10, .int v_63), (9, .int v_62), (0, .ref h0), (1, .int n), (2, .int k), (3, .int j), (4, .int z), (5, .int v_20), (6, .int w6), (7, .int w7), (8, .int x8)]) hx hb dX4_losses_136 hl (k := 10) rfl (by rw [ev_63]; rfl) (by decide) rfl (fun ls hl => ?_)
                          refine lv_goto (tgt := 90) hx hb dX4_losses_139 (by decide) ?_
                          exact ih_36 v_62 v_63 _ _ _ (show (6 - v_63.toInt).toNat < fu_35 by omega) (show 0 ≤ v_62.toInt ∧ v_62.toInt ≤ 1000000 by omega) (show 0 ≤ v_63.toInt ∧ v_63.toInt ≤ 6 by omega) (by rw [show v_63.toInt.toNat = x10.toInt.toNat + 1 by omega]; exact HPb) (fun hp => HPd (hps hp) (HF hp)) hP hD hS (lv_sub hl [2, 3, 4, 5, 6, 7, 8, 9, 10, 1, 0] rfl)
                        · have tc_60 := b_ne rfl (show (0 : Int32).toInt = 0 by decide) c_60
                          refine lv_iload_n hx hb dX4_losses_125 rfl (lv_at hl 3 rfl) ?_
                          refine lv_goto (tgt := 133) hx hb dX4_losses_126 (by decide) ?_
                          refine lv_imul hx hb dX4_losses_133 ?_
                          refine lv_topi (fun v_64 ev_64 => ?_)
                          have HF : ((j.toInt ≤ 9 ∧ x8.toInt = 0) ∨ (1 ≤ j.toInt ∧ x8.toInt = v_20.toInt)) → 1 ≤ j.toInt := by
                            intro hp
                            rcases hp with ⟨_, h8⟩ | ⟨h1, _⟩
                            · exact absurd (hw_59.resolve_right (fun q => absurd q.1 (by omega))).2 (by rw [show x8 = 0 from Int32.toInt_inj.mp (h8.trans (show (0 : Int) = (0 : Int32).toInt by decide))]; exact bit0 _)
                            · exact h1
                          obtain ⟨HPa, HPb, HPc, HPd⟩ := mulP (w := w9) (f := j) (v := v_64) (x := x10) (by omega) hp10 (by omega) (by omega) (by omega) ev_64
                          refine lv_istore (lv' := [(9, .int v_64), (0, .ref h0), (1, .int n), (2, .int k), (3, .int j), (4, .int z), (5, .int v_20), (6, .int w6), (7, .int w7), (8, .int x8), (10, .int x10)]) hx hb dX4_losses_134 hl (by decide) rfl (fun ls hl => ?_)
                          obtain ⟨v_65, ev_65⟩ : ∃ z : Int32, z = x10 + 1 := ⟨_, rfl⟩
                          have tv_65 : v_65.toInt = x10.toInt + 1 := by rw [ev_65]; exact ti_add (x := x10) (y := 1) (show -2147483648 ≤ x10.toInt + 1 by omega) (show x10.toInt + 1 < 2147483648 by omega)
                          refine lv_iinc (v := v_65) (lv' := [(10, .int v_65), (9, .int v_64), (0, .ref h0), (1, .int n), (2, .int k), (3, .int j), (4, .int z), (5, .int v_20), (6, .int w6), (7, .int w7), (8, .int x8)]) hx hb dX4_losses_136 hl (k := 10) rfl (by rw [ev_65]; rfl) (by decide) rfl (fun ls hl => ?_)
                          refine lv_goto (tgt := 90) hx hb dX4_losses_139 (by decide) ?_
                          exact ih_36 v_64 v_65 _ _ _ (show (6 - v_65.toInt).toNat < fu_35 by omega) (show 0 ≤ v_64.toInt ∧ v_64.toInt ≤ 1000000 by omega) (show 0 ≤ v_65.toInt ∧ v_65.toInt ≤ 6 by omega) (by rw [show v_65.toInt.toNat = x10.toInt.toNat + 1 by omega]; exact HPb) (fun hp => HPd (hps hp) (HF hp)) hP hD hS (lv_sub hl [2, 3, 4, 5, 6, 7, 8, 9, 10, 1, 0] rfl)
                      · have tc_56 := b_eq rfl (show (0 : Int32).toInt = 0 by decide) c_56
                        refine lv_iconst (v := 1) hx hb dX4_losses_111 (by decide) ?_
                        refine lv_goto (tgt := 133) hx hb dX4_losses_112 (by decide) ?_
                        refine lv_imul hx hb dX4_losses_133 ?_
                        refine lv_topi (fun v_66 ev_66 => ?_)
                        have tv_66 : v_66.toInt = w9.toInt * (1 : Int) := by rw [ev_66]; exact ti_mul (x := w9) (y := 1) (show -2147483648 ≤ w9.toInt * (1 : Int) by omega) (show w9.toInt * (1 : Int) < 2147483648 by omega)
                        have HF : ((j.toInt ≤ 9 ∧ x8.toInt = 0) ∨ (1 ≤ j.toInt ∧ x8.toInt = v_20.toInt)) → 1 ≤ (1 : Int32).toInt := fun _ => by decide
                        obtain ⟨HPa, HPb, HPc, HPd⟩ := mulP (w := w9) (f := 1) (v := v_66) (x := x10) (by omega) hp10 (by omega) (by decide) (by decide) ev_66
                        refine lv_istore (lv' := [(9, .int v_66), (0, .ref h0), (1, .int n), (2, .int k), (3, .int j), (4, .int z), (5, .int v_20), (6, .int w6), (7, .int w7), (8, .int x8), (10, .int x10)]) hx hb dX4_losses_134 hl (by decide) rfl (fun ls hl => ?_)
                        obtain ⟨v_67, ev_67⟩ : ∃ z : Int32, z = x10 + 1 := ⟨_, rfl⟩
                        have tv_67 : v_67.toInt = x10.toInt + 1 := by rw [ev_67]; exact ti_add (x := x10) (y := 1) (show -2147483648 ≤ x10.toInt + 1 by omega) (show x10.toInt + 1 < 2147483648 by omega)
                        refine lv_iinc (v := v_67) (lv' := [(10, .int v_67), (9, .int v_66), (0, .ref h0), (1, .int n), (2, .int k), (3, .int j), (4, .int z), (5, .int v_20), (6, .int w6), (7, .int w7), (8, .int x8)]) hx hb dX4_losses_136 hl (k := 10) rfl (by rw [ev_67]; rfl) (by decide) rfl (fun ls hl => ?_)
                        refine lv_goto (tgt := 90) hx hb dX4_losses_139 (by decide) ?_
                        exact ih_36 v_66 v_67 _ _ _ (show (6 - v_67.toInt).toNat < fu_35 by omega) (show 0 ≤ v_66.toInt ∧ v_66.toInt ≤ 1000000 by omega) (show 0 ≤ v_67.toInt ∧ v_67.toInt ≤ 6 by omega) (by rw [show v_67.toInt.toNat = x10.toInt.toNat + 1 by omega]; exact HPb) (fun hp => HPd (hps hp) (HF hp)) hP hD hS (lv_sub hl [2, 3, 4, 5, 6, 7, 8, 9, 10, 1, 0] rfl)
                exact LOOP_35 _ 1 0 _ _ _ (Nat.lt_succ_self _) (by decide) (by decide) (by decide) (show ((j.toInt ≤ 9 ∧ x8.toInt = 0) ∨ (1 ≤ j.toInt ∧ x8.toInt = v_20.toInt)) → 1 ≤ (1 : Int) by omega) hP hD hS (lv_sub hl [2, 3, 4, 5, 6, 7, 8, 9, 10, 1, 0] rfl)
        exact LOOP_21 _ 0 0 0 Fno Fby Flo Fhi _ _ _ (Nat.lt_succ_self _) (by decide) (by decide) (hBy) (show (0 : Int) ≤ 1000000 * (0 : Int) by omega) (show j.toInt ≤ 9 → 1 ≤ (0 : Int) → 1 ≤ (0 : Int) by omega) (show 1 ≤ j.toInt → v_20.toInt < (0 : Int) → 1 ≤ (0 : Int) by omega) hP hD hS (lv_sub hl [4, 5, 6, 7, 8, 3, 2, 1, 0] rfl)
      · have tc_14 := b_eq rfl (show (0 : Int32).toInt = 0 by decide) c_14
        refine lv_bipush (v := (-2)) hx hb dX4_losses_34 (by decide) ?_
        exact ret_i (post := (fun (r : Int32) (u : (Nat → Int32) × (Nat → Int32) × (Nat → Int32) × (Nat → Int32)) => ByOk u.2.1)) (W1 := (fun u => [(h0, .inr (4, [.int ype, .int ytk, .ref ywi, .ref yki, .ref yse, .ref yno, .ref yrh, .ref yrw, .ref yrk, .ref yrt, .int yrp, .int yrq, .ref ytx, .int yle, .int yat, .int yfa, .ref yby, .ref ylo, .ref yhi, .int yac, .int ynx, .ref yro, .ref ygl, .int ysn, .ref yso, .ref ysp, .ref ysw, .long ysd, .ref yik, .ref ykp])), (yno, .inl (cI, 96, .inl u.1)), (yki, .inl (cI, 5, .inl Fki)), (yby, .inl (cI, 5, .inl u.2.1)), (ylo, .inl (cI, 5, .inl u.2.2.1)), (yhi, .inl (cI, 5, .inl u.2.2.2)), (ywi, .inl (cI, 5, .inl Fwi))])) (Fno, Fby, Flo, Fhi) hx hb hr hlocks rfl hQ hK hP hD hS ⟨by decide, by decide⟩ dX4_losses_36 hBy
  · have tc_4 := b_eq rfl (show (0 : Int32).toInt = 0 by decide) c_4
    refine lv_iconst (v := (-1)) hx hb dX4_losses_8 (by decide) ?_
    exact ret_i (post := (fun (r : Int32) (u : (Nat → Int32) × (Nat → Int32) × (Nat → Int32) × (Nat → Int32)) => ByOk u.2.1)) (W1 := (fun u => [(h0, .inr (4, [.int ype, .int ytk, .ref ywi, .ref yki, .ref yse, .ref yno, .ref yrh, .ref yrw, .ref yrk, .ref yrt, .int yrp, .int yrq, .ref ytx, .int yle, .int yat, .int yfa, .ref yby, .ref ylo, .ref yhi, .int yac, .int ynx, .ref yro, .ref ygl, .int ysn, .ref yso, .ref ysp, .ref ysw, .long ysd, .ref yik, .ref ykp])), (yno, .inl (cI, 96, .inl u.1)), (yki, .inl (cI, 5, .inl Fki)), (yby, .inl (cI, 5, .inl u.2.1)), (ylo, .inl (cI, 5, .inl u.2.2.1)), (yhi, .inl (cI, 5, .inl u.2.2.2)), (ywi, .inl (cI, 5, .inl Fwi))])) (Fno, Fby, Flo, Fhi) hx hb hr hlocks rfl hQ hK hP hD hS ⟨by decide, by decide⟩ dX4_losses_9 hBy
