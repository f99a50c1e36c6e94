theorem dX4_ones_0 : decode cX4_ones 0 = .ok (.iconst 0, 1) := by decide +kernel
theorem dX4_ones_1 : decode cX4_ones 1 = .ok (.istore_n 1, 1) := by decide +kernel
theorem dX4_ones_2 : decode cX4_ones 2 = .ok (.iconst 0, 1) := by decide +kernel
theorem dX4_ones_3 : decode cX4_ones 3 = .ok (.istore_n 2, 1) := by decide +kernel
theorem dX4_ones_4 : decode cX4_ones 4 = .ok (.iload_n 2, 1) := by decide +kernel
theorem dX4_ones_5 : decode cX4_ones 5 = .ok (.bipush 7, 2) := by decide +kernel
theorem dX4_ones_7 : decode cX4_ones 7 = .ok (.if_icmp .ge 17, 3) := by decide +kernel
theorem dX4_ones_10 : decode cX4_ones 10 = .ok (.iload_n 1, 1) := by decide +kernel
theorem dX4_ones_11 : decode cX4_ones 11 = .ok (.iload_n 0, 1) := by decide +kernel
theorem dX4_ones_12 : decode cX4_ones 12 = .ok (.iload_n 2, 1) := by decide +kernel
theorem dX4_ones_13 : decode cX4_ones 13 = .ok (.ishr, 1) := by decide +kernel
theorem dX4_ones_14 : decode cX4_ones 14 = .ok (.iconst 1, 1) := by decide +kernel
theorem dX4_ones_15 : decode cX4_ones 15 = .ok (.iand, 1) := by decide +kernel
theorem dX4_ones_16 : decode cX4_ones 16 = .ok (.iadd, 1) := by decide +kernel
theorem dX4_ones_17 : decode cX4_ones 17 = .ok (.istore_n 1, 1) := by decide +kernel
theorem dX4_ones_18 : decode cX4_ones 18 = .ok (.iinc 2 1, 3) := by decide +kernel
theorem dX4_ones_21 : decode cX4_ones 21 = .ok (.goto (-17), 3) := by decide +kernel
theorem dX4_ones_24 : decode cX4_ones 24 = .ok (.iload_n 1, 1) := by decide +kernel
theorem dX4_ones_25 : decode cX4_ones 25 = .ok (.ireturn, 1) := by decide +kernel
theorem dX4_pass_0 : decode cX4_pass 0 = .ok (.bipush 48, 2) := by decide +kernel
theorem dX4_pass_2 : decode cX4_pass 2 = .ok (.iload_n 1, 1) := by decide +kernel
theorem dX4_pass_3 : decode cX4_pass 3 = .ok (.imul, 1) := by decide +kernel
theorem dX4_pass_4 : decode cX4_pass 4 = .ok (.istore_n 3, 1) := by decide +kernel
theorem dX4_pass_5 : decode cX4_pass 5 = .ok (.iconst 0, 1) := by decide +kernel
theorem dX4_pass_6 : decode cX4_pass 6 = .ok (.istore 4, 2) := by decide +kernel
theorem dX4_pass_8 : decode cX4_pass 8 = .ok (.iconst 0, 1) := by decide +kernel
theorem dX4_pass_9 : decode cX4_pass 9 = .ok (.istore 5, 2) := by decide +kernel
theorem dX4_pass_11 : decode cX4_pass 11 = .ok (.iload 5, 2) := by decide +kernel
theorem dX4_pass_13 : decode cX4_pass 13 = .ok (.aload_n 0, 1) := by decide +kernel
theorem dX4_pass_14 : decode cX4_pass 14 = .ok (.getfield 68, 3) := by decide +kernel
theorem dX4_pass_17 : decode cX4_pass 17 = .ok (.if_icmp .ge 24, 3) := by decide +kernel
theorem dX4_pass_41 : decode cX4_pass 41 = .ok (.iconst 0, 1) := by decide +kernel
theorem dX4_pass_42 : decode cX4_pass 42 = .ok (.istore 5, 2) := by decide +kernel
theorem dX4_pass_44 : decode cX4_pass 44 = .ok (.iload 5, 2) := by decide +kernel
theorem dX4_pass_46 : decode cX4_pass 46 = .ok (.aload_n 0, 1) := by decide +kernel
theorem dX4_pass_47 : decode cX4_pass 47 = .ok (.getfield 68, 3) := by decide +kernel
theorem dX4_pass_50 : decode cX4_pass 50 = .ok (.if_icmp .ge 138, 3) := by decide +kernel
theorem dX4_pass_188 : decode cX4_pass 188 = .ok (.aload_n 0, 1) := by decide +kernel
theorem dX4_pass_189 : decode cX4_pass 189 = .ok (.getfield 19, 3) := by decide +kernel
theorem dX4_pass_192 : decode cX4_pass 192 = .ok (.iload_n 3, 1) := by decide +kernel
theorem dX4_pass_193 : decode cX4_pass 193 = .ok (.dup2, 1) := by decide +kernel
theorem dX4_pass_194 : decode cX4_pass 194 = .ok (.iaload, 1) := by decide +kernel
theorem dX4_pass_195 : decode cX4_pass 195 = .ok (.iconst 1, 1) := by decide +kernel
theorem dX4_pass_196 : decode cX4_pass 196 = .ok (.iadd, 1) := by decide +kernel
theorem dX4_pass_197 : decode cX4_pass 197 = .ok (.iastore, 1) := by decide +kernel
theorem dX4_pass_198 : decode cX4_pass 198 = .ok (.iload 4, 2) := by decide +kernel
theorem dX4_pass_200 : decode cX4_pass 200 = .ok (.ireturn, 1) := by decide +kernel
theorem dX4_layTrial_0 : decode cX4_layTrial 0 = .ok (.iconst 0, 1) := by decide +kernel
theorem dX4_layTrial_1 : decode cX4_layTrial 1 = .ok (.istore_n 1, 1) := by decide +kernel
theorem dX4_layTrial_2 : decode cX4_layTrial 2 = .ok (.iload_n 1, 1) := by decide +kernel
theorem dX4_layTrial_3 : decode cX4_layTrial 3 = .ok (.bipush 48, 2) := by decide +kernel
theorem dX4_layTrial_5 : decode cX4_layTrial 5 = .ok (.if_icmp .ge 24, 3) := by decide +kernel
theorem dX4_layTrial_8 : decode cX4_layTrial 8 = .ok (.aload_n 0, 1) := by decide +kernel
theorem dX4_layTrial_9 : decode cX4_layTrial 9 = .ok (.getfield 19, 3) := by decide +kernel
theorem dX4_layTrial_12 : decode cX4_layTrial 12 = .ok (.bipush 48, 2) := by decide +kernel
theorem dX4_layTrial_14 : decode cX4_layTrial 14 = .ok (.iload_n 1, 1) := by decide +kernel
theorem dX4_layTrial_15 : decode cX4_layTrial 15 = .ok (.iadd, 1) := by decide +kernel
theorem dX4_layTrial_16 : decode cX4_layTrial 16 = .ok (.aload_n 0, 1) := by decide +kernel
theorem dX4_layTrial_17 : decode cX4_layTrial 17 = .ok (.getfield 19, 3) := by decide +kernel
theorem dX4_layTrial_20 : decode cX4_layTrial 20 = .ok (.iload_n 1, 1) := by decide +kernel
theorem dX4_layTrial_21 : decode cX4_layTrial 21 = .ok (.iaload, 1) := by decide +kernel
theorem dX4_layTrial_22 : decode cX4_layTrial 22 = .ok (.iastore, 1) := by decide +kernel
theorem dX4_layTrial_23 : decode cX4_layTrial 23 = .ok (.iinc 1 1, 3) := by decide +kernel
theorem dX4_layTrial_26 : decode cX4_layTrial 26 = .ok (.goto (-24), 3) := by decide +kernel
theorem dX4_layTrial_29 : decode cX4_layTrial 29 = .ok (.return_, 1) := by decide +kernel
theorem dX4_loseTrial_0 : decode cX4_loseTrial 0 = .ok (.iconst 0, 1) := by decide +kernel
theorem dX4_loseTrial_1 : decode cX4_loseTrial 1 = .ok (.istore_n 2, 1) := by decide +kernel
theorem dX4_loseTrial_2 : decode cX4_loseTrial 2 = .ok (.iload_n 2, 1) := by decide +kernel
theorem dX4_loseTrial_3 : decode cX4_loseTrial 3 = .ok (.aload_n 0, 1) := by decide +kernel
theorem dX4_loseTrial_4 : decode cX4_loseTrial 4 = .ok (.getfield 101, 3) := by decide +kernel
theorem dX4_loseTrial_7 : decode cX4_loseTrial 7 = .ok (.if_icmp .ge 31, 3) := by decide +kernel
theorem dX4_loseTrial_38 : decode cX4_loseTrial 38 = .ok (.return_, 1) := by decide +kernel
set_option maxRecDepth 20000 in
theorem ggX4_passAll_X4_pass : GoodIn wsX4_passAll wsX4_pass := goodIn_r _ [6, 7, 8, 1, 9, 10, 11, 12, 13, 5, 14, 15, 16, 17, 18, 19, 23, 24, 25, 26, 27, 28, 29, 30, 31, 32, 33, 34, 35, 36, 37, 38, 39, 40, 41, 42, 43, 44, 45, 46, 47, 48, 49, 50, 51, 52] (by decide +kernel) (by decide +kernel)
set_option maxRecDepth 20000 in
theorem gX4_passAll_X4_pass : GoodIn wsX4_passAll (wsV RX4 143 RX4 yX4_pass wsX4_pass) := goodIn_app (goodIn_of _ (by decide +kernel)) ggX4_passAll_X4_pass
set_option maxRecDepth 20000 in
theorem ggX4_passAll_X4_ones : GoodIn wsX4_passAll wsX4_ones := goodIn_r _ [22] (by decide +kernel) (by decide +kernel)
set_option maxRecDepth 20000 in
theorem gX4_passAll_X4_ones : GoodIn wsX4_passAll (va_wsS RX4 152 yX4_ones wsX4_ones) := goodIn_app (goodIn_of _ (by decide +kernel)) ggX4_passAll_X4_ones
theorem dX4_passAll_0 : decode cX4_passAll 0 = .ok (.iconst 0, 1) := by decide +kernel
theorem dX4_passAll_1 : decode cX4_passAll 1 = .ok (.istore_n 2, 1) := by decide +kernel
theorem dX4_passAll_2 : decode cX4_passAll 2 = .ok (.aload_n 0, 1) := by decide +kernel
theorem dX4_passAll_3 : decode cX4_passAll 3 = .ok (.getfield 19, 3) := by decide +kernel
theorem dX4_passAll_6 : decode cX4_passAll 6 = .ok (.bipush 48, 2) := by decide +kernel
theorem dX4_passAll_8 : decode cX4_passAll 8 = .ok (.iaload, 1) := by decide +kernel
theorem dX4_passAll_9 : decode cX4_passAll 9 = .ok (.bipush 10, 2) := by decide +kernel
theorem dX4_passAll_11 : decode cX4_passAll 11 = .ok (.if_icmp .ge 18, 3) := by decide +kernel
theorem dX4_passAll_14 : decode cX4_passAll 14 = .ok (.iload_n 2, 1) := by decide +kernel
theorem dX4_passAll_15 : decode cX4_passAll 15 = .ok (.aload_n 0, 1) := by decide +kernel
theorem dX4_passAll_16 : decode cX4_passAll 16 = .ok (.iconst 1, 1) := by decide +kernel
theorem dX4_passAll_17 : decode cX4_passAll 17 = .ok (.iload_n 1, 1) := by decide +kernel
theorem dX4_passAll_18 : decode cX4_passAll 18 = .ok (.invokevirtual 143, 3) := by decide +kernel
theorem dX4_passAll_21 : decode cX4_passAll 21 = .ok (.invokestatic 152, 3) := by decide +kernel
theorem dX4_passAll_24 : decode cX4_passAll 24 = .ok (.iadd, 1) := by decide +kernel
theorem dX4_passAll_25 : decode cX4_passAll 25 = .ok (.istore_n 2, 1) := by decide +kernel
theorem dX4_passAll_26 : decode cX4_passAll 26 = .ok (.goto (-24), 3) := by decide +kernel
theorem dX4_passAll_29 : decode cX4_passAll 29 = .ok (.iload_n 2, 1) := by decide +kernel
theorem dX4_passAll_30 : decode cX4_passAll 30 = .ok (.ireturn, 1) := by decide +kernel
theorem dX4_gladOf_0 : decode cX4_gladOf 0 = .ok (.iconst 0, 1) := by decide +kernel
theorem dX4_gladOf_1 : decode cX4_gladOf 1 = .ok (.istore_n 1, 1) := by decide +kernel
theorem dX4_gladOf_2 : decode cX4_gladOf 2 = .ok (.iconst 0, 1) := by decide +kernel
theorem dX4_gladOf_3 : decode cX4_gladOf 3 = .ok (.istore_n 2, 1) := by decide +kernel
theorem dX4_gladOf_4 : decode cX4_gladOf 4 = .ok (.iload_n 2, 1) := by decide +kernel
theorem dX4_gladOf_5 : decode cX4_gladOf 5 = .ok (.aload_n 0, 1) := by decide +kernel
theorem dX4_gladOf_6 : decode cX4_gladOf 6 = .ok (.getfield 68, 3) := by decide +kernel
theorem dX4_gladOf_9 : decode cX4_gladOf 9 = .ok (.if_icmp .ge 35, 3) := by decide +kernel
theorem dX4_gladOf_44 : decode cX4_gladOf 44 = .ok (.iload_n 1, 1) := by decide +kernel
theorem dX4_gladOf_45 : decode cX4_gladOf 45 = .ok (.ireturn, 1) := by decide +kernel
set_option maxRecDepth 20000 in
theorem ggX4_gladWithout_X4_layTrial : GoodIn wsX4_gladWithout wsX4_layTrial := goodIn_r _ [6, 7, 41, 42, 43, 44, 45, 46, 47, 48, 49, 50, 51, 52, 53, 54, 55, 56, 57, 58, 59, 60, 61, 62, 63, 64, 65, 66, 67, 68, 69, 70] (by decide +kernel) (by decide +kernel)
set_option maxRecDepth 20000 in
theorem gX4_gladWithout_X4_layTrial : GoodIn wsX4_gladWithout (wsV RX4 157 RX4 yX4_layTrial wsX4_layTrial) := goodIn_app (goodIn_of _ (by decide +kernel)) ggX4_gladWithout_X4_layTrial
set_option maxRecDepth 20000 in
theorem ggX4_gladWithout_X4_loseTrial : GoodIn wsX4_gladWithout wsX4_loseTrial := goodIn_r _ [11, 1, 7, 41, 42, 43, 44, 45, 46, 47, 48, 49, 50, 51, 52, 53, 54, 55, 56, 57, 58, 59, 60, 61, 62, 63, 64, 65, 66, 67, 68, 69, 70] (by decide +kernel) (by decide +kernel)
set_option maxRecDepth 20000 in
theorem gX4_gladWithout_X4_loseTrial : GoodIn wsX4_gladWithout (wsV RX4 169 RX4 yX4_loseTrial wsX4_loseTrial) := goodIn_app (goodIn_of _ (by decide +kernel)) ggX4_gladWithout_X4_loseTrial
set_option maxRecDepth 20000 in
theorem ggX4_gladWithout_X4_passAll : GoodIn wsX4_gladWithout wsX4_passAll := goodIn_r _ [15, 7, 16, 17, 18, 5, 19, 20, 21, 22, 23, 24, 25, 26, 27, 28, 29, 30, 31, 32, 33, 34, 35, 41, 42, 43, 44, 45, 46, 47, 48, 49, 50, 51, 52, 53, 54, 55, 56, 57, 58, 59, 60, 61, 62, 63, 64, 65, 66, 67, 68, 69, 70] (by decide +kernel) (by decide +kernel)
set_option maxRecDepth 20000 in
theorem gX4_gladWithout_X4_passAll : GoodIn wsX4_gladWithout (wsV RX4 173 RX4 yX4_passAll wsX4_passAll) := goodIn_app (goodIn_of _ (by decide +kernel)) ggX4_gladWithout_X4_passAll
set_option maxRecDepth 20000 in
theorem ggX4_gladWithout_X4_gladOf : GoodIn wsX4_gladWithout wsX4_gladOf := goodIn_r _ [39, 20, 7, 40, 41, 42, 43, 44, 45, 46, 47, 48, 49, 50, 51, 52, 53, 54, 55, 56, 57, 58, 59, 60, 61, 62, 63, 64, 65, 66, 67, 68, 69, 70] (by decide +kernel) (by decide +kernel)
set_option maxRecDepth 20000 in
theorem gX4_gladWithout_X4_gladOf : GoodIn wsX4_gladWithout (wsV RX4 176 RX4 yX4_gladOf wsX4_gladOf) := goodIn_app (goodIn_of _ (by decide +kernel)) ggX4_gladWithout_X4_gladOf
theorem dX4_gladWithout_0 : decode cX4_gladWithout 0 = .ok (.aload_n 0, 1) := by decide +kernel
theorem dX4_gladWithout_1 : decode cX4_gladWithout 1 = .ok (.invokevirtual 157, 3) := by decide +kernel
theorem dX4_gladWithout_4 : decode cX4_gladWithout 4 = .ok (.aload_n 0, 1) := by decide +kernel
theorem dX4_gladWithout_5 : decode cX4_gladWithout 5 = .ok (.iload_n 1, 1) := by decide +kernel
theorem dX4_gladWithout_6 : decode cX4_gladWithout 6 = .ok (.invokevirtual 169, 3) := by decide +kernel
theorem dX4_gladWithout_9 : decode cX4_gladWithout 9 = .ok (.aload_n 0, 1) := by decide +kernel
theorem dX4_gladWithout_10 : decode cX4_gladWithout 10 = .ok (.aload_n 0, 1) := by decide +kernel
theorem dX4_gladWithout_11 : decode cX4_gladWithout 11 = .ok (.getfield 101, 3) := by decide +kernel
theorem dX4_gladWithout_14 : decode cX4_gladWithout 14 = .ok (.invokevirtual 173, 3) := by decide +kernel
theorem dX4_gladWithout_17 : decode cX4_gladWithout 17 = .ok (.pop, 1) := by decide +kernel
theorem dX4_gladWithout_18 : decode cX4_gladWithout 18 = .ok (.aload_n 0, 1) := by decide +kernel
theorem dX4_gladWithout_19 : decode cX4_gladWithout 19 = .ok (.invokevirtual 176, 3) := by decide +kernel
theorem dX4_gladWithout_22 : decode cX4_gladWithout 22 = .ok (.ireturn, 1) := by decide +kernel
set_option maxHeartbeats 600000 in
set_option maxRecDepth 100000 in
theorem c_X4_ones (l : Launch) (D : va_G) (cI cZ cM : ClassId) (n : Int32) (sz : Nat)  : Ci l yX4_ones wsX4_ones ({ frames := 0, cells := 0, slots := 0, locals := 0 } : Room) D cI cZ cM [.int n] [] sz (fun (r : Int32) (u : Unit) => True) (fun u => []) 0 0 := by
  refine begins (l := l) (y := yX4_ones) (ws := wsX4_ones) (av := [.int n]) (Qc := fun A => va_Qi (fun (r : Int32) (u : Unit) => True) (fun u => Wd D cI cZ cM A ((fun u => []) u)) A) cX4_ones 3 (some .int) (by decide) rfl (Nat.le_of_ble_eq_true rfl) ?_
  intro p e s m args below meth c R Q A ls hBd hR hQ hA hS hK hP hD hl
  obtain ⟨hx, hb, hr, hts, hown, hlocks, hin, hml⟩ := hBd
  have hl : lv_has ls 3 [(0, .int n)] := hl
  refine lv_iconst (v := 0) hx hb dX4_ones_0 (by decide) ?_
  refine lv_istore_n (lv' := [(1, .int 0), (0, .int n)]) hx hb dX4_ones_1 rfl hl (by decide) rfl (fun ls hl => ?_)
  refine lv_iconst (v := 0) hx hb dX4_ones_2 (by decide) ?_
  refine lv_istore_n (lv' := [(2, .int 0), (1, .int 0), (0, .int n)]) hx hb dX4_ones_3 rfl hl (by decide) rfl (fun ls hl => ?_)
  have LOOP_1 : ∀ (fu : Nat) (w1 : Int32) (x2 : Int32) (H : Heap) (locs : List Loc) (ls : Array Slot), (7 - x2.toInt).toNat < fu → (0 ≤ x2.toInt ∧ x2.toInt ≤ 7) → va_P D vwCl [] H → va_D A [] → va_S A s.heap H locs → lv_has ls 3 [(0, .int n), (1, .int w1), (2, .int x2)] → W p l e R s m args below meth c H locs 0 0 Q (F0 m 4 ls []) := by
    intro fu
    induction fu with
    | zero => intro w1 x2 H locs ls hmu; exact absurd hmu (Nat.not_lt_zero _)
    | succ fu ih =>
      intro w1 x2 H locs ls hmu h_x2 hP hD hS hl
      obtain ⟨h_x2a, h_x2b⟩ := h_x2
      have ih_2 := ih
      clear ih
      refine lv_iload_n hx hb dX4_ones_4 rfl (lv_at hl 2 rfl) ?_
      refine lv_bipush (v := 7) hx hb dX4_ones_5 (by decide) ?_
      refine lv_icmp_ge (tgt := 24) hx hb dX4_ones_7 (by decide) (fun c_3 => ?_) (fun c_3 => ?_)
      · have tc_3 := b_le (show (7 : Int32).toInt = 7 by decide) rfl c_3
        refine lv_iload_n hx hb dX4_ones_24 rfl (lv_at hl 1 rfl) ?_
        exact ret_i (post := (fun (r : Int32) (u : Unit) => True)) (W1 := (fun u => [])) () hx hb hr hlocks rfl hQ hK hP hD hS ⟨by decide, by decide⟩ dX4_ones_25 trivial
      · have tc_3 := b_nle (show (7 : Int32).toInt = 7 by decide) rfl c_3
        refine lv_iload_n hx hb dX4_ones_10 rfl (lv_at hl 1 rfl) ?_
        refine lv_iload_n hx hb dX4_ones_11 rfl (lv_at hl 0 rfl) ?_
        refine lv_iload_n hx hb dX4_ones_12 rfl (lv_at hl 2 rfl) ?_
        refine lv_ishr hx hb dX4_ones_13 ?_
        refine lv_topi (fun v_4 ev_4 => ?_)
        refine lv_iconst (v := 1) hx hb dX4_ones_14 (by decide) ?_
        refine lv_iand hx hb dX4_ones_15 ?_
        refine lv_topi (fun v_5 ev_5 => ?_)
        refine lv_iadd hx hb dX4_ones_16 ?_
        refine lv_topi (fun v_6 ev_6 => ?_)
        refine lv_istore_n (lv' := [(1, .int v_6), (0, .int n), (2, .int x2)]) hx hb dX4_ones_17 rfl hl (by decide) rfl (fun ls hl => ?_)
        obtain ⟨v_7, ev_7⟩ : ∃ z : Int32, z = x2 + 1 := ⟨_, rfl⟩
        have tv_7 : v_7.toInt = x2.toInt + 1 := by rw [ev_7]; exact ti_add (x := x2) (y := 1) (show -2147483648 ≤ x2.toInt + 1 by omega) (show x2.toInt + 1 < 2147483648 by omega)
        refine lv_iinc (v := v_7) (lv' := [(2, .int v_7), (1, .int v_6), (0, .int n)]) hx hb dX4_ones_18 hl (k := 2) rfl (by rw [ev_7]; rfl) (by decide) rfl (fun ls hl => ?_)
        refine lv_goto (tgt := 4) hx hb dX4_ones_21 (by decide) ?_
        exact ih_2 v_6 v_7 _ _ _ (show (7 - v_7.toInt).toNat < fu by omega) (show 0 ≤ v_7.toInt ∧ v_7.toInt ≤ 7 by omega) hP hD hS (lv_sub hl [2, 1, 0] rfl)
  exact LOOP_1 _ 0 0 _ _ _ (Nat.lt_succ_self _) (by decide) hP hD hS (lv_sub hl [2, 1, 0] rfl)

set_option maxHeartbeats 600000 in
set_option maxRecDepth 100000 in
theorem c_X4_layTrial (l : Launch) (D : va_G) (cI cZ cM : ClassId) (h0 : Nat) (ype : Int32) (ytk : Int32) (ywi : Nat) (yki : Nat) (yse : Nat) (yno : Nat) (yrh : Nat) (yrw : Nat) (yrk : Nat) (yrt : Nat) (yrp : Int32) (yrq : Int32) (ytx : Nat) (yle : Int32) (yat : Int32) (yfa : Int32) (yby : Nat) (ylo : Nat) (yhi : Nat) (yac : Int32) (ynx : Int32) (yro : Nat) (ygl : Nat) (ysn : Int32) (yso : Nat) (ysp : Nat) (ysw : Nat) (ysd : Int64) (yik : Nat) (ykp : Nat) (Fno : Nat → Int32) (sz : Nat)  : Cv l yX4_layTrial wsX4_layTrial ({ frames := 0, cells := 0, slots := 0, locals := 0 } : Room) D cI cZ cM [.ref h0] [(h0, .inr (4, [.int ype, .int ytk, .ref ywi, .ref yki, .ref yse, .ref yno, .ref yrh, .ref yrw, .ref yrk, .ref yrt, .int yrp, .int yrq, .ref ytx, .int yle, .int yat, .int yfa, .ref yby, .ref ylo, .ref yhi, .int yac, .int ynx, .ref yro, .ref ygl, .int ysn, .ref yso, .ref ysp, .ref ysw, .long ysd, .ref yik, .ref ykp])), (yno, .inl (cI, 96, .inl Fno))] sz (fun (u : (Nat → Int32)) => (u 48).toInt = (Fno 0).toInt ∧ (u 0).toInt = (Fno 0).toInt) (fun u => [(h0, .inr (4, [.int ype, .int ytk, .ref ywi, .ref yki, .ref yse, .ref yno, .ref yrh, .ref yrw, .ref yrk, .ref yrt, .int yrp, .int yrq, .ref ytx, .int yle, .int yat, .int yfa, .ref yby, .ref ylo, .ref yhi, .int yac, .int ynx, .ref yro, .ref ygl, .int ysn, .ref yso, .ref ysp, .ref ysw, .long ysd, .ref yik, .ref ykp])), (yno, .inl (cI, 96, .inl u))]) 0 0 := by
  refine begins (l := l) (y := yX4_layTrial) (ws := wsX4_layTrial) (av := [.ref h0]) (Qc := fun A => va_Qv (fun (u : (Nat → Int32)) => (u 48).toInt = (Fno 0).toInt ∧ (u 0).toInt = (Fno 0).toInt) (fun u => Wd D cI cZ cM A ((fun u => [(h0, .inr (4, [.int ype, .int ytk, .ref ywi, .ref yki, .ref yse, .ref yno, .ref yrh, .ref yrw, .ref yrk, .ref yrt, .int yrp, .int yrq, .ref ytx, .int yle, .int yat, .int yfa, .ref yby, .ref ylo, .ref yhi, .int yac, .int ynx, .ref yro, .ref ygl, .int ysn, .ref yso, .ref ysp, .ref ysw, .long ysd, .ref yik, .ref ykp])), (yno, .inl (cI, 96, .inl u))]) u)) A) cX4_layTrial 2 none (by decide) rfl (Nat.le_of_ble_eq_true rfl) ?_
  intro p e s m args below meth c R Q A ls hBd hR hQ hA hS hK hP hD hl
  obtain ⟨hx, hb, hr, hts, hown, hlocks, hin, hml⟩ := hBd
  have hl : lv_has ls 2 [(0, .ref h0)] := hl
  have iX4 : ∀ w ∈ wsX40, w ∈ wsX4_layTrial := fun _ h => List.mem_cons_of_mem _ (List.mem_append_right _ h)
  refine lv_iconst (v := 0) hx hb dX4_layTrial_0 (by decide) ?_
  refine lv_istore_n (lv' := [(1, .int 0), (0, .ref h0)]) hx hb dX4_layTrial_1 rfl hl (by decide) rfl (fun ls hl => ?_)
  have LOOP_1 : ∀ (fu : Nat) (x1 : Int32) (gn : Nat → Int32) (H : Heap) (locs : List Loc) (ls : Array Slot), (48 - x1.toInt).toNat < fu → (0 ≤ x1.toInt ∧ x1.toInt ≤ 48) → ((gn 0).toInt = (Fno 0).toInt) → (0 < x1.toInt → (gn 48).toInt = (Fno 0).toInt) → va_P D vwCl [(h0, .inr (4, [.int ype, .int ytk, .ref ywi, .ref yki, .ref yse, .ref yno, .ref yrh, .ref yrw, .ref yrk, .ref yrt, .int yrp, .int yrq, .ref ytx, .int yle, .int yat, .int yfa, .ref yby, .ref ylo, .ref yhi, .int yac, .int ynx, .ref yro, .ref ygl, .int ysn, .ref yso, .ref ysp, .ref ysw, .long ysd, .ref yik, .ref ykp])), (yno, .inl (cI, 96, .inl gn))] H → va_D A [(h0, .inr (4, [.int ype, .int ytk, .ref ywi, .ref yki, .ref yse, .ref yno, .ref yrh, .ref yrw, .ref yrk, .ref yrt, .int yrp, .int yrq, .ref ytx, .int yle, .int yat, .int yfa, .ref yby, .ref ylo, .ref yhi, .int yac, .int ynx, .ref yro, .ref ygl, .int ysn, .ref yso, .ref ysp, .ref ysw, .long ysd, .ref yik, .ref ykp])), (yno, .inl (cI, 96, .inl gn))] → va_S A s.heap H locs → lv_has ls 2 [(0, .ref h0), (1, .int x1)] → W p l e R s m args below meth c H locs 0 0 Q (F0 m 2 ls []) := by
    intro fu
    induction fu with
    | zero => intro x1 gn H locs ls hmu; exact absurd hmu (Nat.not_lt_zero _)
    | succ fu ih =>
      intro x1 gn H locs ls hmu h_x1 h1 h2 hP hD hS hl
      obtain ⟨h_x1a, h_x1b⟩ := h_x1
      have ih_2 := ih
      clear ih
      refine lv_iload_n hx hb dX4_layTrial_2 rfl (lv_at hl 1 rfl) ?_
      refine lv_bipush (v := 48) hx hb dX4_layTrial_3 (by decide) ?_
      refine lv_icmp_ge (tgt := 29) hx hb dX4_layTrial_5 (by decide) (fun c_3 => ?_) (fun c_3 => ?_)
      · have tc_3 := b_le (show (48 : Int32).toInt = 48 by decide) rfl c_3
        exact ret_v (post := (fun (u : (Nat → Int32)) => (u 48).toInt = (Fno 0).toInt ∧ (u 0).toInt = (Fno 0).toInt)) (W1 := (fun u => [(h0, .inr (4, [.int ype, .int ytk, .ref ywi, .ref yki, .ref yse, .ref yno, .ref yrh, .ref yrw, .ref yrk, .ref yrt, .int yrp, .int yrq, .ref ytx, .int yle, .int yat, .int yfa, .ref yby, .ref ylo, .ref yhi, .int yac, .int ynx, .ref yro, .ref ygl, .int ysn, .ref yso, .ref ysp, .ref ysw, .long ysd, .ref yik, .ref ykp])), (yno, .inl (cI, 96, .inl u))])) gn hx hb hr hlocks hQ hK hP hD hS ⟨by decide, by decide⟩ dX4_layTrial_29 (⟨h2 (by omega), h1⟩)
      · have tc_3 := b_nle (show (48 : Int32).toInt = 48 by decide) rfl c_3
        refine lv_aload_n hx hb dX4_layTrial_8 rfl (lv_at hl 0 rfl) ?_
        refine va_get (D := D) (ci := 4) (v := .ref yno) (C := RX4) (T := TX4) (N := 30) hx hb hts iX4 hown hK hP 0 rfl rfl 5 (by decide) (hts (.fieldLink RX4 19 "PunchedTicketModel" "now" "[I") (List.mem_of_getElem? (i := 1) rfl)) (fun _ h9 => h9) rfl dX4_layTrial_9 ?_
        refine lv_bipush (v := 48) hx hb dX4_layTrial_12 (by decide) ?_
        refine lv_iload_n hx hb dX4_layTrial_14 rfl (lv_at hl 1 rfl) ?_
        refine lv_iadd hx hb dX4_layTrial_15 ?_
        refine lv_topi (fun v_4 ev_4 => ?_)
        have tv_4 : v_4.toInt = (48 : Int) + x1.toInt := by rw [ev_4]; exact ti_add (x := 48) (y := x1) (show -2147483648 ≤ (48 : Int) + x1.toInt by omega) (show (48 : Int) + x1.toInt < 2147483648 by omega)
        refine lv_aload_n hx hb dX4_layTrial_16 rfl (lv_at hl 0 rfl) ?_
        refine va_get (D := D) (ci := 4) (v := .ref yno) (C := RX4) (T := TX4) (N := 30) hx hb hts iX4 hown hK hP 0 rfl rfl 5 (by decide) (hts (.fieldLink RX4 19 "PunchedTicketModel" "now" "[I") (List.mem_of_getElem? (i := 1) rfl)) (fun _ h9 => h9) rfl dX4_layTrial_17 ?_
        refine lv_iload_n hx hb dX4_layTrial_20 rfl (lv_at hl 1 rfl) ?_
        refine va_iald hx hb hK hP 1 0 rfl rfl (vp_in_iff.mpr ⟨by omega, by omega⟩) dX4_layTrial_21 ?_
        refine lv_topi (fun v_5 ev_5 => ?_)
        refine va_iast hx hb hK hP hD hS 1 0 rfl rfl (vp_in_iff.mpr ⟨by omega, by omega⟩) dX4_layTrial_22 (fun H locs hP hD hS => ?_)
        obtain ⟨f_6, ef_6⟩ : ∃ g : Nat → Int32, upd gn (v_4 : Int32).toNatClampNeg v_5 = g := ⟨_, rfl⟩
        rw [ef_6] at hP hD
        have hP : va_P D vwCl [(h0, .inr (4, [.int ype, .int ytk, .ref ywi, .ref yki, .ref yse, .ref yno, .ref yrh, .ref yrw, .ref yrk, .ref yrt, .int yrp, .int yrq, .ref ytx, .int yle, .int yat, .int yfa, .ref yby, .ref ylo, .ref yhi, .int yac, .int ynx, .ref yro, .ref ygl, .int ysn, .ref yso, .ref ysp, .ref ysw, .long ysd, .ref yik, .ref ykp])), (yno, .inl (cI, 96, .inl f_6))] H := hP
        have hD : va_D A [(h0, .inr (4, [.int ype, .int ytk, .ref ywi, .ref yki, .ref yse, .ref yno, .ref yrh, .ref yrw, .ref yrk, .ref yrt, .int yrp, .int yrq, .ref ytx, .int yle, .int yat, .int yfa, .ref yby, .ref ylo, .ref yhi, .int yac, .int ynx, .ref yro, .ref ygl, .int ysn, .ref yso, .ref ysp, .ref ysw, .long ysd, .ref yik, .ref ykp])), (yno, .inl (cI, 96, .inl f_6))] := hD
        have hz0 : (f_6 0).toInt = (Fno 0).toInt := by rw [← ef_6, upd_ne (by omega) (by omega)]; exact h1
        have hz48 : (f_6 48).toInt = (Fno 0).toInt := by
          by_cases q : x1.toInt = 0
          · rw [← ef_6, upd_eq (by omega), ev_5, ld_at gn 0 (by omega)]; exact h1
          · rw [← ef_6, upd_ne (by omega) (by omega)]; exact h2 (by omega)
        obtain ⟨v_7, ev_7⟩ : ∃ z : Int32, z = x1 + 1 := ⟨_, rfl⟩
        have tv_7 : v_7.toInt = x1.toInt + 1 := by rw [ev_7]; exact ti_add (x := x1) (y := 1) (show -2147483648 ≤ x1.toInt + 1 by omega) (show x1.toInt + 1 < 2147483648 by omega)
        refine lv_iinc (v := v_7) (lv' := [(1, .int v_7), (0, .ref h0)]) hx hb dX4_layTrial_23 hl (k := 1) rfl (by rw [ev_7]; rfl) (by decide) rfl (fun ls hl => ?_)
        refine lv_goto (tgt := 2) hx hb dX4_layTrial_26 (by decide) ?_
        exact ih_2 v_7 f_6 _ _ _ (show (48 - v_7.toInt).toNat < fu by omega) (show 0 ≤ v_7.toInt ∧ v_7.toInt ≤ 48 by omega) (hz0) (fun _ => hz48) hP hD hS (lv_sub hl [1, 0] rfl)
  exact LOOP_1 _ 0 Fno _ _ _ (Nat.lt_succ_self _) (by decide) (rfl) (fun q => absurd q (by decide)) hP hD hS (lv_sub hl [1, 0] rfl)

set_option maxHeartbeats 600000 in
set_option maxRecDepth 100000 in
theorem c_X4_pass0 (l : Launch) (D : va_G) (cI cZ cM : ClassId) (h0 : Nat) (n : Int32) (ytk : Int32) (ywi : Nat) (yki : Nat) (yse : Nat) (yno : Nat) (yrh : Nat) (yrw : Nat) (yrk : Nat) (yrt : Nat) (yrp : Int32) (yrq : Int32) (ytx : Nat) (yle : Int32) (yat : Int32) (yfa : Int32) (yby : Nat) (ylo : Nat) (yhi : Nat) (yac : Int32) (ynx : Int32) (yro : Nat) (ygl : Nat) (ysn : Int32) (yso : Nat) (ysp : Nat) (ysw : Nat) (ysd : Int64) (yik : Nat) (ykp : Nat) (Fno : Nat → Int32) (sz : Nat) (h_f : 0 ≤ (Fno 0).toInt ∧ (Fno 0).toInt ≤ 9) : Ci l yX4_pass wsX4_pass ({ frames := 0, cells := 0, slots := 0, locals := 0 } : Room) D cI cZ cM [.ref h0, .int 0, .int n] [(h0, .inr (4, [.int 0, .int ytk, .ref ywi, .ref yki, .ref yse, .ref yno, .ref yrh, .ref yrw, .ref yrk, .ref yrt, .int yrp, .int yrq, .ref ytx, .int yle, .int yat, .int yfa, .ref yby, .ref ylo, .ref yhi, .int yac, .int ynx, .ref yro, .ref ygl, .int ysn, .ref yso, .ref ysp, .ref ysw, .long ysd, .ref yik, .ref ykp])), (yno, .inl (cI, 96, .inl Fno))] sz (fun (r : Int32) (u : (Nat → Int32)) => r.toInt = 0 ∧ (u 0).toInt = (Fno 0).toInt + 1) (fun u => [(h0, .inr (4, [.int 0, .int ytk, .ref ywi, .ref yki, .ref yse, .ref yno, .ref yrh, .ref yrw, .ref yrk, .ref yrt, .int yrp, .int yrq, .ref ytx, .int yle, .int yat, .int yfa, .ref yby, .ref ylo, .ref yhi, .int yac, .int ynx, .ref yro, .ref ygl, .int ysn, .ref yso, .ref ysp, .ref ysw, .long ysd, .ref yik, .ref ykp])), (yno, .inl (cI, 96, .inl u))]) 0 0 := by
  refine begins (l := l) (y := yX4_pass) (ws := wsX4_pass) (av := [.ref h0, .int 0, .int n]) (Qc := fun A => va_Qi (fun (r : Int32) (u : (Nat → Int32)) => r.toInt = 0 ∧ (u 0).toInt = (Fno 0).toInt + 1) (fun u => Wd D cI cZ cM A ((fun u => [(h0, .inr (4, [.int 0, .int ytk, .ref ywi, .ref yki, .ref yse, .ref yno, .ref yrh, .ref yrw, .ref yrk, .ref yrt, .int yrp, .int yrq, .ref ytx, .int yle, .int yat, .int yfa, .ref yby, .ref ylo, .ref yhi, .int yac, .int ynx, .ref yro, .ref ygl, .int ysn, .ref yso, .ref ysp, .ref ysw, .long ysd, .ref yik, .ref ykp])), (yno, .inl (cI, 96, .inl u))]) u)) A) cX4_pass 9 (some .int) (by decide) rfl (Nat.le_of_ble_eq_true rfl) ?_
  intro p e s m args below meth c R Q A ls hBd hR hQ hA hS hK hP hD hl
  obtain ⟨hx, hb, hr, hts, hown, hlocks, hin, hml⟩ := hBd
  have hl : lv_has ls 9 [(0, .ref h0), (1, .int 0), (2, .int n)] := hl
  have iX4 : ∀ w ∈ wsX40, w ∈ wsX4_pass := fun _ h => List.mem_cons_of_mem _ (List.mem_append_right _ h)
  obtain ⟨h_fa, h_fb⟩ := h_f
  refine lv_bipush (v := 48) hx hb dX4_pass_0 (by decide) ?_
  refine lv_iload_n hx hb dX4_pass_2 rfl (lv_at hl 1 rfl) ?_
  refine lv_imul hx hb dX4_pass_3 ?_
  refine lv_topc (y := 0) (by decide) ?_
  refine lv_istore_n (lv' := [(3, .int 0), (0, .ref h0), (1, .int 0), (2, .int n)]) hx hb dX4_pass_4 rfl hl (by decide) rfl (fun ls hl => ?_)
  refine lv_iconst (v := 0) hx hb dX4_pass_5 (by decide) ?_
  refine lv_istore (lv' := [(4, .int 0), (3, .int 0), (0, .ref h0), (1, .int 0), (2, .int n)]) hx hb dX4_pass_6 hl (by decide) rfl (fun ls hl => ?_)
  refine lv_iconst (v := 0) hx hb dX4_pass_8 (by decide) ?_
  refine lv_istore (lv' := [(5, .int 0), (4, .int 0), (3, .int 0), (0, .ref h0), (1, .int 0), (2, .int n)]) hx hb dX4_pass_9 hl (by decide) rfl (fun ls hl => ?_)
  refine lv_iload hx hb dX4_pass_11 (lv_at hl 0 rfl) ?_
  refine lv_aload_n hx hb dX4_pass_13 rfl (lv_at hl 3 rfl) ?_
  refine va_get (D := D) (ci := 4) (v := .int 0) (C := RX4) (T := TX4) (N := 30) hx hb hts iX4 hown hK hP 0 rfl rfl 0 (by decide) (hts (.fieldLink RX4 68 "PunchedTicketModel" "people" "I") (List.mem_of_getElem? (i := 1) rfl)) (fun _ h9 => h9) rfl dX4_pass_14 ?_
  refine lv_icmp_ge (tgt := 41) hx hb dX4_pass_17 (by decide) (fun c_1 => ?_) (fun c_1 => ?_)
  · have tc_1 := b_le (show (0 : Int32).toInt = 0 by decide) (show (0 : Int32).toInt = 0 by decide) c_1
    refine lv_iconst (v := 0) hx hb dX4_pass_41 (by decide) ?_
    refine lv_istore (lv' := [(5, .int 0), (4, .int 0), (3, .int 0), (0, .ref h0), (1, .int 0), (2, .int n)]) hx hb dX4_pass_42 hl (by decide) rfl (fun ls hl => ?_)
    refine lv_iload hx hb dX4_pass_44 (lv_at hl 0 rfl) ?_
    refine lv_aload_n hx hb dX4_pass_46 rfl (lv_at hl 3 rfl) ?_
    refine va_get (D := D) (ci := 4) (v := .int 0) (C := RX4) (T := TX4) (N := 30) hx hb hts iX4 hown hK hP 0 rfl rfl 0 (by decide) (hts (.fieldLink RX4 68 "PunchedTicketModel" "people" "I") (List.mem_of_getElem? (i := 1) rfl)) (fun _ h9 => h9) rfl dX4_pass_47 ?_
    refine lv_icmp_ge (tgt := 188) hx hb dX4_pass_50 (by decide) (fun c_2 => ?_) (fun c_2 => ?_)
    · have tc_2 := b_le (show (0 : Int32).toInt = 0 by decide) (show (0 : Int32).toInt = 0 by decide) c_2
      refine lv_aload_n hx hb dX4_pass_188 rfl (lv_at hl 3 rfl) ?_
      refine va_get (D := D) (ci := 4) (v := .ref yno) (C := RX4) (T := TX4) (N := 30) hx hb hts iX4 hown hK hP 0 rfl rfl 5 (by decide) (hts (.fieldLink RX4 19 "PunchedTicketModel" "now" "[I") (List.mem_of_getElem? (i := 3) rfl)) (fun _ h9 => h9) rfl dX4_pass_189 ?_
      refine lv_iload_n hx hb dX4_pass_192 rfl (lv_at hl 2 rfl) ?_
      refine lv_dup2_11 hx hb dX4_pass_193 rfl rfl ?_
      refine va_iald hx hb hK hP 1 0 rfl rfl (vp_in_iff.mpr (by decide)) dX4_pass_194 ?_
      refine lv_topi (fun v_3 ev_3 => ?_)
      have tv_3 : v_3.toInt = (Fno 0).toInt := by rw [ev_3]; rfl
      refine lv_iconst (v := 1) hx hb dX4_pass_195 (by decide) ?_
      refine lv_iadd hx hb dX4_pass_196 ?_
      refine lv_topi (fun v_4 ev_4 => ?_)
      have tv_4 : v_4.toInt = v_3.toInt + (1 : Int) := by rw [ev_4]; exact ti_add (x := v_3) (y := 1) (show -2147483648 ≤ v_3.toInt + (1 : Int) by omega) (show v_3.toInt + (1 : Int) < 2147483648 by omega)
      refine va_iast hx hb hK hP hD hS 1 0 rfl rfl (vp_in_iff.mpr (by decide)) dX4_pass_197 (fun H locs hP hD hS => ?_)
      obtain ⟨f_5, ef_5⟩ : ∃ g : Nat → Int32, upd Fno (0 : Int32).toNatClampNeg v_4 = g := ⟨_, rfl⟩
      rw [ef_5] at hP hD
      have hP : va_P D vwCl [(h0, .inr (4, [.int 0, .int ytk, .ref ywi, .ref yki, .ref yse, .ref yno, .ref yrh, .ref yrw, .ref yrk, .ref yrt, .int yrp, .int yrq, .ref ytx, .int yle, .int yat, .int yfa, .ref yby, .ref ylo, .ref yhi, .int yac, .int ynx, .ref yro, .ref ygl, .int ysn, .ref yso, .ref ysp, .ref ysw, .long ysd, .ref yik, .ref ykp])), (yno, .inl (cI, 96, .inl f_5))] H := hP
      have hD : va_D A [(h0, .inr (4, [.int 0, .int ytk, .ref ywi, .ref yki, .ref yse, .ref yno, .ref yrh, .ref yrw, .ref yrk, .ref yrt, .int yrp, .int yrq, .ref ytx, .int yle, .int yat, .int yfa, .ref yby, .ref ylo, .ref yhi, .int yac, .int ynx, .ref yro, .ref ygl, .int ysn, .ref yso, .ref ysp, .ref ysw, .long ysd, .ref yik, .ref ykp])), (yno, .inl (cI, 96, .inl f_5))] := hD
      have hz : (f_5 0).toInt = (Fno 0).toInt + 1 := by rw [show f_5 0 = v_4 by rw [← ef_5]; exact pk_us]; omega
      refine lv_iload hx hb dX4_pass_198 (lv_at hl 1 rfl) ?_
      exact ret_i (post := (fun (r : Int32) (u : (Nat → Int32)) => r.toInt = 0 ∧ (u 0).toInt = (Fno 0).toInt + 1)) (W1 := (fun u => [(h0, .inr (4, [.int 0, .int ytk, .ref ywi, .ref yki, .ref yse, .ref yno, .ref yrh, .ref yrw, .ref yrk, .ref yrt, .int yrp, .int yrq, .ref ytx, .int yle, .int yat, .int yfa, .ref yby, .ref ylo, .ref yhi, .int yac, .int ynx, .ref yro, .ref ygl, .int ysn, .ref yso, .ref ysp, .ref ysw, .long ysd, .ref yik, .ref ykp])), (yno, .inl (cI, 96, .inl u))])) f_5 hx hb hr hlocks rfl hQ hK hP hD hS ⟨by decide, by decide⟩ dX4_pass_200 (⟨by decide, hz⟩)
    · have tc_2 := b_nle (show (0 : Int32).toInt = 0 by decide) (show (0 : Int32).toInt = 0 by decide) c_2
      exfalso; omega
  · have tc_1 := b_nle (show (0 : Int32).toInt = 0 by decide) (show (0 : Int32).toInt = 0 by decide) c_1
    exfalso; omega

set_option maxHeartbeats 600000 in
set_option maxRecDepth 100000 in
theorem c_X4_pass1 (l : Launch) (D : va_G) (cI cZ cM : ClassId) (h0 : Nat) (n : Int32) (ytk : Int32) (ywi : Nat) (yki : Nat) (yse : Nat) (yno : Nat) (yrh : Nat) (yrw : Nat) (yrk : Nat) (yrt : Nat) (yrp : Int32) (yrq : Int32) (ytx : Nat) (yle : Int32) (yat : Int32) (yfa : Int32) (yby : Nat) (ylo : Nat) (yhi : Nat) (yac : Int32) (ynx : Int32) (yro : Nat) (ygl : Nat) (ysn : Int32) (yso : Nat) (ysp : Nat) (ysw : Nat) (ysd : Int64) (yik : Nat) (ykp : Nat) (Fno : Nat → Int32) (sz : Nat) (h_f : 0 ≤ (Fno 48).toInt ∧ (Fno 48).toInt ≤ 9) : Ci l yX4_pass wsX4_pass ({ frames := 0, cells := 0, slots := 0, locals := 0 } : Room) D cI cZ cM [.ref h0, .int 1, .int n] [(h0, .inr (4, [.int 0, .int ytk, .ref ywi, .ref yki, .ref yse, .ref yno, .ref yrh, .ref yrw, .ref yrk, .ref yrt, .int yrp, .int yrq, .ref ytx, .int yle, .int yat, .int yfa, .ref yby, .ref ylo, .ref yhi, .int yac, .int ynx, .ref yro, .ref ygl, .int ysn, .ref yso, .ref ysp, .ref ysw, .long ysd, .ref yik, .ref ykp])), (yno, .inl (cI, 96, .inl Fno))] sz (fun (r : Int32) (u : (Nat → Int32)) => r.toInt = 0 ∧ (u 48).toInt = (Fno 48).toInt + 1 ∧ (u 0).toInt = (Fno 0).toInt) (fun u => [(h0, .inr (4, [.int 0, .int ytk, .ref ywi, .ref yki, .ref yse, .ref yno, .ref yrh, .ref yrw, .ref yrk, .ref yrt, .int yrp, .int yrq, .ref ytx, .int yle, .int yat, .int yfa, .ref yby, .ref ylo, .ref yhi, .int yac, .int ynx, .ref yro, .ref ygl, .int ysn, .ref yso, .ref ysp, .ref ysw, .long ysd, .ref yik, .ref ykp])), (yno, .inl (cI, 96, .inl u))]) 0 0 := by
  refine begins (l := l) (y := yX4_pass) (ws := wsX4_pass) (av := [.ref h0, .int 1, .int n]) (Qc := fun A => va_Qi (fun (r : Int32) (u : (Nat → Int32)) => r.toInt = 0 ∧ (u 48).toInt = (Fno 48).toInt + 1 ∧ (u 0).toInt = (Fno 0).toInt) (fun u => Wd D cI cZ cM A ((fun u => [(h0, .inr (4, [.int 0, .int ytk, .ref ywi, .ref yki, .ref yse, .ref yno, .ref yrh, .ref yrw, .ref yrk, .ref yrt, .int yrp, .int yrq, .ref ytx, .int yle, .int yat, .int yfa, .ref yby, .ref ylo, .ref yhi, .int yac, .int ynx, .ref yro, .ref ygl, .int ysn, .ref yso, .ref ysp, .ref ysw, .long ysd, .ref yik, .ref ykp])), (yno, .inl (cI, 96, .inl u))]) u)) A) cX4_pass 9 (some .int) (by decide) rfl (Nat.le_of_ble_eq_true rfl) ?_
  intro p e s m args below meth c R Q A ls hBd hR hQ hA hS hK hP hD hl
  obtain ⟨hx, hb, hr, hts, hown, hlocks, hin, hml⟩ := hBd
  have hl : lv_has ls 9 [(0, .ref h0), (1, .int 1), (2, .int n)] := hl
  have iX4 : ∀ w ∈ wsX40, w ∈ wsX4_pass := fun _ h => List.mem_cons_of_mem _ (List.mem_append_right _ h)
  obtain ⟨h_fa, h_fb⟩ := h_f
  refine lv_bipush (v := 48) hx hb dX4_pass_0 (by decide) ?_
  refine lv_iload_n hx hb dX4_pass_2 rfl (lv_at hl 1 rfl) ?_
  refine lv_imul hx hb dX4_pass_3 ?_
  refine lv_topc (y := 48) (by decide) ?_
  refine lv_istore_n (lv' := [(3, .int 48), (0, .ref h0), (1, .int 1), (2, .int n)]) hx hb dX4_pass_4 rfl hl (by decide) rfl (fun ls hl => ?_)
  refine lv_iconst (v := 0) hx hb dX4_pass_5 (by decide) ?_
  refine lv_istore (lv' := [(4, .int 0), (3, .int 48), (0, .ref h0), (1, .int 1), (2, .int n)]) hx hb dX4_pass_6 hl (by decide) rfl (fun ls hl => ?_)
  refine lv_iconst (v := 0) hx hb dX4_pass_8 (by decide) ?_
  refine lv_istore (lv' := [(5, .int 0), (4, .int 0), (3, .int 48), (0, .ref h0), (1, .int 1), (2, .int n)]) hx hb dX4_pass_9 hl (by decide) rfl (fun ls hl => ?_)
  refine lv_iload hx hb dX4_pass_11 (lv_at hl 0 rfl) ?_
  refine lv_aload_n hx hb dX4_pass_13 rfl (lv_at hl 3 rfl) ?_
  refine va_get (D := D) (ci := 4) (v := .int 0) (C := RX4) (T := TX4) (N := 30) hx hb hts iX4 hown hK hP 0 rfl rfl 0 (by decide) (hts (.fieldLink RX4 68 "PunchedTicketModel" "people" "I") (List.mem_of_getElem? (i := 1) rfl)) (fun _ h9 => h9) rfl dX4_pass_14 ?_
  refine lv_icmp_ge (tgt := 41) hx hb dX4_pass_17 (by decide) (fun c_1 => ?_) (fun c_1 => ?_)
  · have tc_1 := b_le (show (0 : Int32).toInt = 0 by decide) (show (0 : Int32).toInt = 0 by decide) c_1
    refine lv_iconst (v := 0) hx hb dX4_pass_41 (by decide) ?_
    refine lv_istore (lv' := [(5, .int 0), (4, .int 0), (3, .int 48), (0, .ref h0), (1, .int 1), (2, .int n)]) hx hb dX4_pass_42 hl (by decide) rfl (fun ls hl => ?_)
    refine lv_iload hx hb dX4_pass_44 (lv_at hl 0 rfl) ?_
    refine lv_aload_n hx hb dX4_pass_46 rfl (lv_at hl 3 rfl) ?_
    refine va_get (D := D) (ci := 4) (v := .int 0) (C := RX4) (T := TX4) (N := 30) hx hb hts iX4 hown hK hP 0 rfl rfl 0 (by decide) (hts (.fieldLink RX4 68 "PunchedTicketModel" "people" "I") (List.mem_of_getElem? (i := 1) rfl)) (fun _ h9 => h9) rfl dX4_pass_47 ?_
    refine lv_icmp_ge (tgt := 188) hx hb dX4_pass_50 (by decide) (fun c_2 => ?_) (fun c_2 => ?_)
    · have tc_2 := b_le (show (0 : Int32).toInt = 0 by decide) (show (0 : Int32).toInt = 0 by decide) c_2
      refine lv_aload_n hx hb dX4_pass_188 rfl (lv_at hl 3 rfl) ?_
      refine va_get (D := D) (ci := 4) (v := .ref yno) (C := RX4) (T := TX4) (N := 30) hx hb hts iX4 hown hK hP 0 rfl rfl 5 (by decide) (hts (.fieldLink RX4 19 "PunchedTicketModel" "now" "[I") (List.mem_of_getElem? (i := 3) rfl)) (fun _ h9 => h9) rfl dX4_pass_189 ?_
      refine lv_iload_n hx hb dX4_pass_192 rfl (lv_at hl 2 rfl) ?_
      refine lv_dup2_11 hx hb dX4_pass_193 rfl rfl ?_
      refine va_iald hx hb hK hP 1 0 rfl rfl (vp_in_iff.mpr (by decide)) dX4_pass_194 ?_
      refine lv_topi (fun v_3 ev_3 => ?_)
      have tv_3 : v_3.toInt = (Fno 48).toInt := by rw [ev_3]; rfl
      refine lv_iconst (v := 1) hx hb dX4_pass_195 (by decide) ?_
      refine lv_iadd hx hb dX4_pass_196 ?_
      refine lv_topi (fun v_4 ev_4 => ?_)
      have tv_4 : v_4.toInt = v_3.toInt + (1 : Int) := by rw [ev_4]; exact ti_add (x := v_3) (y := 1) (show -2147483648 ≤ v_3.toInt + (1 : Int) by omega) (show v_3.toInt + (1 : Int) < 2147483648 by omega)
      refine va_iast hx hb hK hP hD hS 1 0 rfl rfl (vp_in_iff.mpr (by decide)) dX4_pass_197 (fun H locs hP hD hS => ?_)
      obtain ⟨f_5, ef_5⟩ : ∃ g : Nat → Int32, upd Fno (48 : Int32).toNatClampNeg v_4 = g := ⟨_, rfl⟩
      rw [ef_5] at hP hD
      have hP : va_P D vwCl [(h0, .inr (4, [.int 0, .int ytk, .ref ywi, .ref yki, .ref yse, .ref yno, .ref yrh, .ref yrw, .ref yrk, .ref yrt, .int yrp, .int yrq, .ref ytx, .int yle, .int yat, .int yfa, .ref yby, .ref ylo, .ref yhi, .int yac, .int ynx, .ref yro, .ref ygl, .int ysn, .ref yso, .ref ysp, .ref ysw, .long ysd, .ref yik, .ref ykp])), (yno, .inl (cI, 96, .inl f_5))] H := hP
      have hD : va_D A [(h0, .inr (4, [.int 0, .int ytk, .ref ywi, .ref yki, .ref yse, .ref yno, .ref yrh, .ref yrw, .ref yrk, .ref yrt, .int yrp, .int yrq, .ref ytx, .int yle, .int yat, .int yfa, .ref yby, .ref ylo, .ref yhi, .int yac, .int ynx, .ref yro, .ref ygl, .int ysn, .ref yso, .ref ysp, .ref ysw, .long ysd, .ref yik, .ref ykp])), (yno, .inl (cI, 96, .inl f_5))] := hD
      have hz : (f_5 48).toInt = (Fno 48).toInt + 1 := by rw [show f_5 48 = v_4 by rw [← ef_5]; exact pk_us]; omega
      have hz0 : (f_5 0).toInt = (Fno 0).toInt := by rw [show f_5 0 = Fno 0 by rw [← ef_5]; exact pk_un (by decide)]
      refine lv_iload hx hb dX4_pass_198 (lv_at hl 1 rfl) ?_
      exact ret_i (post := (fun (r : Int32) (u : (Nat → Int32)) => r.toInt = 0 ∧ (u 48).toInt = (Fno 48).toInt + 1 ∧ (u 0).toInt = (Fno 0).toInt)) (W1 := (fun u => [(h0, .inr (4, [.int 0, .int ytk, .ref ywi, .ref yki, .ref yse, .ref yno, .ref yrh, .ref yrw, .ref yrk, .ref yrt, .int yrp, .int yrq, .ref ytx, .int yle, .int yat, .int yfa, .ref yby, .ref ylo, .ref yhi, .int yac, .int ynx, .ref yro, .ref ygl, .int ysn, .ref yso, .ref ysp, .ref ysw, .long ysd, .ref yik, .ref ykp])), (yno, .inl (cI, 96, .inl u))])) f_5 hx hb hr hlocks rfl hQ hK hP hD hS ⟨by decide, by decide⟩ dX4_pass_200 (⟨by decide, hz, hz0⟩)
    · have tc_2 := b_nle (show (0 : Int32).toInt = 0 by decide) (show (0 : Int32).toInt = 0 by decide) c_2
      exfalso; omega
  · have tc_1 := b_nle (show (0 : Int32).toInt = 0 by decide) (show (0 : Int32).toInt = 0 by decide) c_1
    exfalso; omega

set_option maxHeartbeats 600000 in
set_option maxRecDepth 100000 in
theorem c_X4_loseTrial0 (l : Launch) (D : va_G) (cI cZ cM : ClassId) (h0 : Nat) (n : Int32) (ype : Int32) (ywi : Nat) (yki : Nat) (yse : Nat) (yno : Nat) (yrh : Nat) (yrw : Nat) (yrk : Nat) (yrt : Nat) (yrp : Int32) (yrq : Int32) (ytx : Nat) (yle : Int32) (yat : Int32) (yfa : Int32) (yby : Nat) (ylo : Nat) (yhi : Nat) (yac : Int32) (ynx : Int32) (yro : Nat) (ygl : Nat) (ysn : Int32) (yso : Nat) (ysp : Nat) (ysw : Nat) (ysd : Int64) (yik : Nat) (ykp : Nat) (sz : Nat)  : Cv l yX4_loseTrial wsX4_loseTrial ({ frames := 0, cells := 0, slots := 0, locals := 0 } : Room) D cI cZ cM [.ref h0, .int n] [(h0, .inr (4, [.int ype, .int 0, .ref ywi, .ref yki, .ref yse, .ref yno, .ref yrh, .ref yrw, .ref yrk, .ref yrt, .int yrp, .int yrq, .ref ytx, .int yle, .int yat, .int yfa, .ref yby, .ref ylo, .ref yhi, .int yac, .int ynx, .ref yro, .ref ygl, .int ysn, .ref yso, .ref ysp, .ref ysw, .long ysd, .ref yik, .ref ykp]))] sz (fun (u : Unit) => True) (fun u => [(h0, .inr (4, [.int ype, .int 0, .ref ywi, .ref yki, .ref yse, .ref yno, .ref yrh, .ref yrw, .ref yrk, .ref yrt, .int yrp, .int yrq, .ref ytx, .int yle, .int yat, .int yfa, .ref yby, .ref ylo, .ref yhi, .int yac, .int ynx, .ref yro, .ref ygl, .int ysn, .ref yso, .ref ysp, .ref ysw, .long ysd, .ref yik, .ref ykp]))]) 0 0 := by
  refine begins (l := l) (y := yX4_loseTrial) (ws := wsX4_loseTrial) (av := [.ref h0, .int n]) (Qc := fun A => va_Qv (fun (u : Unit) => True) (fun u => Wd D cI cZ cM A ((fun u => [(h0, .inr (4, [.int ype, .int 0, .ref ywi, .ref yki, .ref yse, .ref yno, .ref yrh, .ref yrw, .ref yrk, .ref yrt, .int yrp, .int yrq, .ref ytx, .int yle, .int yat, .int yfa, .ref yby, .ref ylo, .ref yhi, .int yac, .int ynx, .ref yro, .ref ygl, .int ysn, .ref yso, .ref ysp, .ref ysw, .long ysd, .ref yik, .ref ykp]))]) u)) A) cX4_loseTrial 3 none (by decide) rfl (Nat.le_of_ble_eq_true rfl) ?_
  intro p e s m args below meth c R Q A ls hBd hR hQ hA hS hK hP hD hl
  obtain ⟨hx, hb, hr, hts, hown, hlocks, hin, hml⟩ := hBd
  have hl : lv_has ls 3 [(0, .ref h0), (1, .int n)] := hl
  have iX4 : ∀ w ∈ wsX40, w ∈ wsX4_loseTrial := fun _ h => List.mem_cons_of_mem _ (List.mem_append_right _ h)
  refine lv_iconst (v := 0) hx hb dX4_loseTrial_0 (by decide) ?_
  refine lv_istore_n (lv' := [(2, .int 0), (0, .ref h0), (1, .int n)]) hx hb dX4_loseTrial_1 rfl hl (by decide) rfl (fun ls hl => ?_)
  refine lv_iload_n hx hb dX4_loseTrial_2 rfl (lv_at hl 0 rfl) ?_
  refine lv_aload_n hx hb dX4_loseTrial_3 rfl (lv_at hl 1 rfl) ?_
  refine va_get (D := D) (ci := 4) (v := .int 0) (C := RX4) (T := TX4) (N := 30) hx hb hts iX4 hown hK hP 0 rfl rfl 1 (by decide) (hts (.fieldLink RX4 101 "PunchedTicketModel" "tickets" "I") (List.mem_of_getElem? (i := 1) rfl)) (fun _ h9 => h9) rfl dX4_loseTrial_4 ?_
  refine lv_icmp_ge (tgt := 38) hx hb dX4_loseTrial_7 (by decide) (fun c_1 => ?_) (fun c_1 => ?_)
  · have tc_1 := b_le (show (0 : Int32).toInt = 0 by decide) (show (0 : Int32).toInt = 0 by decide) c_1
    exact ret_v (post := (fun (u : Unit) => True)) (W1 := (fun u => [(h0, .inr (4, [.int ype, .int 0, .ref ywi, .ref yki, .ref yse, .ref yno, .ref yrh, .ref yrw, .ref yrk, .ref yrt, .int yrp, .int yrq, .ref ytx, .int yle, .int yat, .int yfa, .ref yby, .ref ylo, .ref yhi, .int yac, .int ynx, .ref yro, .ref ygl, .int ysn, .ref yso, .ref ysp, .ref ysw, .long ysd, .ref yik, .ref ykp]))])) () hx hb hr hlocks hQ hK hP hD hS ⟨by decide, by decide⟩ dX4_loseTrial_38 trivial
  · have tc_1 := b_nle (show (0 : Int32).toInt = 0 by decide) (show (0 : Int32).toInt = 0 by decide) c_1
    exfalso; omega

set_option maxHeartbeats 600000 in
set_option maxRecDepth 100000 in
theorem c_X4_passAll0 (l : Launch) (D : va_G) (cI cZ cM : ClassId) (h0 : Nat) (n : Int32) (ytk : Int32) (ywi : Nat) (yki : Nat) (yse : Nat) (yno : Nat) (yrh : Nat) (yrw : Nat) (yrk : Nat) (yrt : Nat) (yrp : Int32) (yrq : Int32) (ytx : Nat) (yle : Int32) (yat : Int32) (yfa : Int32) (yby : Nat) (ylo : Nat) (yhi : Nat) (yac : Int32) (ynx : Int32) (yro : Nat) (ygl : Nat) (ysn : Int32) (yso : Nat) (ysp : Nat) (ysw : Nat) (ysd : Int64) (yik : Nat) (ykp : Nat) (Fno : Nat → Int32) (sz : Nat) (h_f : 0 ≤ (Fno 48).toInt ∧ (Fno 48).toInt ≤ 10) : Ci l yX4_passAll wsX4_passAll ({ frames := 1, cells := 0, slots := 0, locals := 28 } : Room) D cI cZ cM [.ref h0, .int n] [(h0, .inr (4, [.int 0, .int ytk, .ref ywi, .ref yki, .ref yse, .ref yno, .ref yrh, .ref yrw, .ref yrk, .ref yrt, .int yrp, .int yrq, .ref ytx, .int yle, .int yat, .int yfa, .ref yby, .ref ylo, .ref yhi, .int yac, .int ynx, .ref yro, .ref ygl, .int ysn, .ref yso, .ref ysp, .ref ysw, .long ysd, .ref yik, .ref ykp])), (yno, .inl (cI, 96, .inl Fno))] sz (fun (r : Int32) (u : (Nat → Int32)) => (u 0).toInt = (Fno 0).toInt) (fun u => [(h0, .inr (4, [.int 0, .int ytk, .ref ywi, .ref yki, .ref yse, .ref yno, .ref yrh, .ref yrw, .ref yrk, .ref yrt, .int yrp, .int yrq, .ref ytx, .int yle, .int yat, .int yfa, .ref yby, .ref ylo, .ref yhi, .int yac, .int ynx, .ref yro, .ref ygl, .int ysn, .ref yso, .ref ysp, .ref ysw, .long ysd, .ref yik, .ref ykp])), (yno, .inl (cI, 96, .inl u))]) 0 0 := by
  refine begins (l := l) (y := yX4_passAll) (ws := wsX4_passAll) (av := [.ref h0, .int n]) (Qc := fun A => va_Qi (fun (r : Int32) (u : (Nat → Int32)) => (u 0).toInt = (Fno 0).toInt) (fun u => Wd D cI cZ cM A ((fun u => [(h0, .inr (4, [.int 0, .int ytk, .ref ywi, .ref yki, .ref yse, .ref yno, .ref yrh, .ref yrw, .ref yrk, .ref yrt, .int yrp, .int yrq, .ref ytx, .int yle, .int yat, .int yfa, .ref yby, .ref ylo, .ref yhi, .int yac, .int ynx, .ref yro, .ref ygl, .int ysn, .ref yso, .ref ysp, .ref ysw, .long ysd, .ref yik, .ref ykp])), (yno, .inl (cI, 96, .inl u))]) u)) A) cX4_passAll 3 (some .int) (by decide) rfl (Nat.le_of_ble_eq_true rfl) ?_
  intro p e s m args below meth c R Q A ls hBd hR hQ hA hS hK hP hD hl
  obtain ⟨hx, hb, hr, hts, hown, hlocks, hin, hml⟩ := hBd
  have hl : lv_has ls 3 [(0, .ref h0), (1, .int n)] := hl
  have iX4 : ∀ w ∈ wsX40, w ∈ wsX4_passAll := fun _ h => List.mem_cons_of_mem _ (List.mem_append_right _ h)
  obtain ⟨h_fa, h_fb⟩ := h_f
  refine lv_iconst (v := 0) hx hb dX4_passAll_0 (by decide) ?_
  refine lv_istore_n (lv' := [(2, .int 0), (0, .ref h0), (1, .int n)]) hx hb dX4_passAll_1 rfl hl (by decide) rfl (fun ls hl => ?_)
  have LOOP_1 : ∀ (fu : Nat) (w2 : Int32) (gn : Nat → Int32) (H : Heap) (locs : List Loc) (ls : Array Slot), (10 - (gn 48).toInt).toNat < fu → (0 ≤ (gn 48).toInt ∧ (gn 48).toInt ≤ 10) → ((gn 0).toInt = (Fno 0).toInt) → va_P D vwCl [(h0, .inr (4, [.int 0, .int ytk, .ref ywi, .ref yki, .ref yse, .ref yno, .ref yrh, .ref yrw, .ref yrk, .ref yrt, .int yrp, .int yrq, .ref ytx, .int yle, .int yat, .int yfa, .ref yby, .ref ylo, .ref yhi, .int yac, .int ynx, .ref yro, .ref ygl, .int ysn, .ref yso, .ref ysp, .ref ysw, .long ysd, .ref yik, .ref ykp])), (yno, .inl (cI, 96, .inl gn))] H → va_D A [(h0, .inr (4, [.int 0, .int ytk, .ref ywi, .ref yki, .ref yse, .ref yno, .ref yrh, .ref yrw, .ref yrk, .ref yrt, .int yrp, .int yrq, .ref ytx, .int yle, .int yat, .int yfa, .ref yby, .ref ylo, .ref yhi, .int yac, .int ynx, .ref yro, .ref ygl, .int ysn, .ref yso, .ref ysp, .ref ysw, .long ysd, .ref yik, .ref ykp])), (yno, .inl (cI, 96, .inl gn))] → va_S A s.heap H locs → lv_has ls 3 [(0, .ref h0), (1, .int n), (2, .int w2)] → W p l e R s m args below meth c H locs 0 0 Q (F0 m 2 ls []) := by
    intro fu
    induction fu with
    | zero => intro w2 gn H locs ls hmu; exact absurd hmu (Nat.not_lt_zero _)
    | succ fu ih =>
      intro w2 gn H locs ls hmu h_g h_0 hP hD hS hl
      obtain ⟨h_ga, h_gb⟩ := h_g
      have ih_2 := ih
      clear ih
      refine lv_aload_n hx hb dX4_passAll_2 rfl (lv_at hl 0 rfl) ?_
      refine va_get (D := D) (ci := 4) (v := .ref yno) (C := RX4) (T := TX4) (N := 30) hx hb hts iX4 hown hK hP 0 rfl rfl 5 (by decide) (hts (.fieldLink RX4 19 "PunchedTicketModel" "now" "[I") (List.mem_of_getElem? (i := 1) rfl)) (fun _ h9 => h9) rfl dX4_passAll_3 ?_
      refine lv_bipush (v := 48) hx hb dX4_passAll_6 (by decide) ?_
      refine va_iald hx hb hK hP 1 0 rfl rfl (vp_in_iff.mpr (by decide)) dX4_passAll_8 ?_
      refine lv_topi (fun v_3 ev_3 => ?_)
      have tv_3 : v_3.toInt = (gn 48).toInt := by rw [ev_3]; rfl
      refine lv_bipush (v := 10) hx hb dX4_passAll_9 (by decide) ?_
      refine lv_icmp_ge (tgt := 29) hx hb dX4_passAll_11 (by decide) (fun c_4 => ?_) (fun c_4 => ?_)
      · have tc_4 := b_le (show (10 : Int32).toInt = 10 by decide) rfl c_4
        refine lv_iload_n hx hb dX4_passAll_29 rfl (lv_at hl 2 rfl) ?_
        exact ret_i (post := (fun (r : Int32) (u : (Nat → Int32)) => (u 0).toInt = (Fno 0).toInt)) (W1 := (fun u => [(h0, .inr (4, [.int 0, .int ytk, .ref ywi, .ref yki, .ref yse, .ref yno, .ref yrh, .ref yrw, .ref yrk, .ref yrt, .int yrp, .int yrq, .ref ytx, .int yle, .int yat, .int yfa, .ref yby, .ref ylo, .ref yhi, .int yac, .int ynx, .ref yro, .ref ygl, .int ysn, .ref yso, .ref ysp, .ref ysw, .long ysd, .ref yik, .ref ykp])), (yno, .inl (cI, 96, .inl u))])) gn hx hb hr hlocks rfl hQ hK hP hD hS ⟨by decide, by decide⟩ dX4_passAll_30 (show (gn 0).toInt = (Fno 0).toInt by omega)
      · have tc_4 := b_nle (show (10 : Int32).toInt = 10 by decide) rfl c_4
        refine lv_iload_n hx hb dX4_passAll_14 rfl (lv_at hl 2 rfl) ?_
        refine lv_aload_n hx hb dX4_passAll_15 rfl (lv_at hl 0 rfl) ?_
        refine lv_iconst (v := 1) hx hb dX4_passAll_16 (by decide) ?_
        refine lv_iload_n hx hb dX4_passAll_17 rfl (lv_at hl 1 rfl) ?_
        refine cV_i (As := [.int 1, .int n]) (rest := [.int w2]) ⟨hx, hb, hml, hown, hts⟩ (c_X4_pass1 l D cI cZ cM h0 n ytk ywi yki yse yno yrh yrw yrk yrt yrp yrq ytx yle yat yfa yby ylo yhi yac ynx yro ygl ysn yso ysp ysw ysd yik ykp gn _ (show 0 ≤ (gn 48).toInt ∧ (gn 48).toInt ≤ 9 by omega)) (cwV 2 hts gX4_passAll_X4_pass rfl rfl rfl (by decide +kernel) ⟨by rw [hR]; decide, by rw [hR]; decide⟩) hK hP hD hS hA [0, 1] [] rfl rfl (by decide) (by decide) (by decide) rfl 0 rfl hl.1 rfl rfl (Nat.le_of_ble_eq_true rfl) dX4_passAll_18 ⟨by rw [hR]; decide, by rw [hR]; decide⟩ (fun r_6 u_7 H locs hw hP hD hS => ?_)
        obtain ⟨Gno_5, rfl⟩ : ∃ z, z = u_7 := ⟨_, rfl⟩
        have hP : va_P D vwCl [(h0, .inr (4, [.int 0, .int ytk, .ref ywi, .ref yki, .ref yse, .ref yno, .ref yrh, .ref yrw, .ref yrk, .ref yrt, .int yrp, .int yrq, .ref ytx, .int yle, .int yat, .int yfa, .ref yby, .ref ylo, .ref yhi, .int yac, .int ynx, .ref yro, .ref ygl, .int ysn, .ref yso, .ref ysp, .ref ysw, .long ysd, .ref yik, .ref ykp])), (yno, .inl (cI, 96, .inl Gno_5))] H := hP.sub [0, 1] rfl
        have hD : va_D A [(h0, .inr (4, [.int 0, .int ytk, .ref ywi, .ref yki, .ref yse, .ref yno, .ref yrh, .ref yrw, .ref yrk, .ref yrt, .int yrp, .int yrq, .ref ytx, .int yle, .int yat, .int yfa, .ref yby, .ref ylo, .ref yhi, .int yac, .int ynx, .ref yro, .ref ygl, .int ysn, .ref yso, .ref ysp, .ref ysw, .long ysd, .ref yik, .ref ykp])), (yno, .inl (cI, 96, .inl Gno_5))] := hD.sub [0, 1] (by decide) rfl
        refine W.widen (k := 0) (n := 0) (Nat.le_refl _) (Nat.le_refl _) ?_
        have hw : r_6.toInt = 0 ∧ (Gno_5 48).toInt = (gn 48).toInt + 1 ∧ (Gno_5 0).toInt = (gn 0).toInt := hw
        have hw_8 := hw
        obtain ⟨hw_8a, hw_8b, hw_8c⟩ := hw_8
        refine cS_i (As := [.int r_6]) (rest := [.int w2]) ⟨hx, hb, hml, hown, hts⟩ (c_X4_ones l D cI cZ cM r_6 _ ) (va_cwS 1 hts gX4_passAll_X4_ones rfl rfl rfl (by decide +kernel) ⟨by rw [hR]; decide, by rw [hR]; decide⟩) hK hP hD hS hA [] [0, 1] rfl rfl (by decide) (by decide) (by decide) hl.1 rfl rfl (Nat.le_of_ble_eq_true rfl) dX4_passAll_21 ⟨by rw [hR]; decide, by rw [hR]; decide⟩ (fun r_9 u_10 H locs hw hP hD hS => ?_)
        have hP : va_P D vwCl [(h0, .inr (4, [.int 0, .int ytk, .ref ywi, .ref yki, .ref yse, .ref yno, .ref yrh, .ref yrw, .ref yrk, .ref yrt, .int yrp, .int yrq, .ref ytx, .int yle, .int yat, .int yfa, .ref yby, .ref ylo, .ref yhi, .int yac, .int ynx, .ref yro, .ref ygl, .int ysn, .ref yso, .ref ysp, .ref ysw, .long ysd, .ref yik, .ref ykp])), (yno, .inl (cI, 96, .inl Gno_5))] H := hP.sub [0, 1] rfl
        have hD : va_D A [(h0, .inr (4, [.int 0, .int ytk, .ref ywi, .ref yki, .ref yse, .ref yno, .ref yrh, .ref yrw, .ref yrk, .ref yrt, .int yrp, .int yrq, .ref ytx, .int yle, .int yat, .int yfa, .ref yby, .ref ylo, .ref yhi, .int yac, .int ynx, .ref yro, .ref ygl, .int ysn, .ref yso, .ref ysp, .ref ysw, .long ysd, .ref yik, .ref ykp])), (yno, .inl (cI, 96, .inl Gno_5))] := hD.sub [0, 1] (by decide) rfl
        refine W.widen (k := 0) (n := 0) (Nat.le_refl _) (Nat.le_refl _) ?_
        refine lv_iadd hx hb dX4_passAll_24 ?_
        refine lv_topi (fun v_11 ev_11 => ?_)
        refine lv_istore_n (lv' := [(2, .int v_11), (0, .ref h0), (1, .int n)]) hx hb dX4_passAll_25 rfl hl (by decide) rfl (fun ls hl => ?_)
        refine lv_goto (tgt := 2) hx hb dX4_passAll_26 (by decide) ?_
        exact ih_2 v_11 Gno_5 _ _ _ (show (10 - (Gno_5 48).toInt).toNat < fu by omega) (show 0 ≤ (Gno_5 48).toInt ∧ (Gno_5 48).toInt ≤ 10 by omega) (show (Gno_5 0).toInt = (Fno 0).toInt by omega) hP hD hS (lv_sub hl [1, 2, 0] rfl)
  exact LOOP_1 _ 0 Fno _ _ _ (Nat.lt_succ_self _) (show 0 ≤ (Fno 48).toInt ∧ (Fno 48).toInt ≤ 10 by omega) (show (Fno 0).toInt = (Fno 0).toInt by omega) hP hD hS (lv_sub hl [1, 2, 0] rfl)

set_option maxHeartbeats 600000 in
set_option maxRecDepth 100000 in
theorem c_X4_gladOf0 (l : Launch) (D : va_G) (cI cZ cM : ClassId) (h0 : Nat) (ytk : Int32) (ywi : Nat) (yki : Nat) (yse : Nat) (yno : Nat) (yrh : Nat) (yrw : Nat) (yrk : Nat) (yrt : Nat) (yrp : Int32) (yrq : Int32) (ytx : Nat) (yle : Int32) (yat : Int32) (yfa : Int32) (yby : Nat) (ylo : Nat) (yhi : Nat) (yac : Int32) (ynx : Int32) (yro : Nat) (ygl : Nat) (ysn : Int32) (yso : Nat) (ysp : Nat) (ysw : Nat) (ysd : Int64) (yik : Nat) (ykp : Nat) (sz : Nat)  : Ci l yX4_gladOf wsX4_gladOf ({ frames := 0, cells := 0, slots := 0, locals := 0 } : Room) D cI cZ cM [.ref h0] [(h0, .inr (4, [.int 0, .int ytk, .ref ywi, .ref yki, .ref yse, .ref yno, .ref yrh, .ref yrw, .ref yrk, .ref yrt, .int yrp, .int yrq, .ref ytx, .int yle, .int yat, .int yfa, .ref yby, .ref ylo, .ref yhi, .int yac, .int ynx, .ref yro, .ref ygl, .int ysn, .ref yso, .ref ysp, .ref ysw, .long ysd, .ref yik, .ref ykp]))] sz (fun (r : Int32) (u : Unit) => r.toInt = 0) (fun u => [(h0, .inr (4, [.int 0, .int ytk, .ref ywi, .ref yki, .ref yse, .ref yno, .ref yrh, .ref yrw, .ref yrk, .ref yrt, .int yrp, .int yrq, .ref ytx, .int yle, .int yat, .int yfa, .ref yby, .ref ylo, .ref yhi, .int yac, .int ynx, .ref yro, .ref ygl, .int ysn, .ref yso, .ref ysp, .ref ysw, .long ysd, .ref yik, .ref ykp]))]) 0 0 := by
  refine begins (l := l) (y := yX4_gladOf) (ws := wsX4_gladOf) (av := [.ref h0]) (Qc := fun A => va_Qi (fun (r : Int32) (u : Unit) => r.toInt = 0) (fun u => Wd D cI cZ cM A ((fun u => [(h0, .inr (4, [.int 0, .int ytk, .ref ywi, .ref yki, .ref yse, .ref yno, .ref yrh, .ref yrw, .ref yrk, .ref yrt, .int yrp, .int yrq, .ref ytx, .int yle, .int yat, .int yfa, .ref yby, .ref ylo, .ref yhi, .int yac, .int ynx, .ref yro, .ref ygl, .int ysn, .ref yso, .ref ysp, .ref ysw, .long ysd, .ref yik, .ref ykp]))]) u)) A) cX4_gladOf 3 (some .int) (by decide) rfl (Nat.le_of_ble_eq_true rfl) ?_
  intro p e s m args below meth c R Q A ls hBd hR hQ hA hS hK hP hD hl
  obtain ⟨hx, hb, hr, hts, hown, hlocks, hin, hml⟩ := hBd
  have hl : lv_has ls 3 [(0, .ref h0)] := hl
  have iX4 : ∀ w ∈ wsX40, w ∈ wsX4_gladOf := fun _ h => List.mem_cons_of_mem _ (List.mem_append_right _ h)
  refine lv_iconst (v := 0) hx hb dX4_gladOf_0 (by decide) ?_
  refine lv_istore_n (lv' := [(1, .int 0), (0, .ref h0)]) hx hb dX4_gladOf_1 rfl hl (by decide) rfl (fun ls hl => ?_)
  refine lv_iconst (v := 0) hx hb dX4_gladOf_2 (by decide) ?_
  refine lv_istore_n (lv' := [(2, .int 0), (1, .int 0), (0, .ref h0)]) hx hb dX4_gladOf_3 rfl hl (by decide) rfl (fun ls hl => ?_)
  refine lv_iload_n hx hb dX4_gladOf_4 rfl (lv_at hl 0 rfl) ?_
  refine lv_aload_n hx hb dX4_gladOf_5 rfl (lv_at hl 2 rfl) ?_
  refine va_get (D := D) (ci := 4) (v := .int 0) (C := RX4) (T := TX4) (N := 30) hx hb hts iX4 hown hK hP 0 rfl rfl 0 (by decide) (hts (.fieldLink RX4 68 "PunchedTicketModel" "people" "I") (List.mem_of_getElem? (i := 1) rfl)) (fun _ h9 => h9) rfl dX4_gladOf_6 ?_
  refine lv_icmp_ge (tgt := 44) hx hb dX4_gladOf_9 (by decide) (fun c_1 => ?_) (fun c_1 => ?_)
  · have tc_1 := b_le (show (0 : Int32).toInt = 0 by decide) (show (0 : Int32).toInt = 0 by decide) c_1
    refine lv_iload_n hx hb dX4_gladOf_44 rfl (lv_at hl 1 rfl) ?_
    exact ret_i (post := (fun (r : Int32) (u : Unit) => r.toInt = 0)) (W1 := (fun u => [(h0, .inr (4, [.int 0, .int ytk, .ref ywi, .ref yki, .ref yse, .ref yno, .ref yrh, .ref yrw, .ref yrk, .ref yrt, .int yrp, .int yrq, .ref ytx, .int yle, .int yat, .int yfa, .ref yby, .ref ylo, .ref yhi, .int yac, .int ynx, .ref yro, .ref ygl, .int ysn, .ref yso, .ref ysp, .ref ysw, .long ysd, .ref yik, .ref ykp]))])) () hx hb hr hlocks rfl hQ hK hP hD hS ⟨by decide, by decide⟩ dX4_gladOf_45 (show (0 : Int) = 0 by omega)
  · have tc_1 := b_nle (show (0 : Int32).toInt = 0 by decide) (show (0 : Int32).toInt = 0 by decide) c_1
    exfalso; omega

set_option maxHeartbeats 600000 in
set_option maxRecDepth 100000 in
theorem c_X4_gladWithout0 (l : Launch) (D : va_G) (cI cZ cM : ClassId) (h0 : Nat) (n : Int32) (ywi : Nat) (yki : Nat) (yse : Nat) (yno : Nat) (yrh : Nat) (yrw : Nat) (yrk : Nat) (yrt : Nat) (yrp : Int32) (yrq : Int32) (ytx : Nat) (yle : Int32) (yat : Int32) (yfa : Int32) (yby : Nat) (ylo : Nat) (yhi : Nat) (yac : Int32) (ynx : Int32) (yro : Nat) (ygl : Nat) (ysn : Int32) (yso : Nat) (ysp : Nat) (ysw : Nat) (ysd : Int64) (yik : Nat) (ykp : Nat) (Fno : Nat → Int32) (sz : Nat) (h_f : 0 ≤ (Fno 0).toInt ∧ (Fno 0).toInt ≤ 10) : Ci l yX4_gladWithout wsX4_gladWithout ({ frames := 2, cells := 0, slots := 0, locals := 50 } : Room) D cI cZ cM [.ref h0, .int n] [(h0, .inr (4, [.int 0, .int 0, .ref ywi, .ref yki, .ref yse, .ref yno, .ref yrh, .ref yrw, .ref yrk, .ref yrt, .int yrp, .int yrq, .ref ytx, .int yle, .int yat, .int yfa, .ref yby, .ref ylo, .ref yhi, .int yac, .int ynx, .ref yro, .ref ygl, .int ysn, .ref yso, .ref ysp, .ref ysw, .long ysd, .ref yik, .ref ykp])), (yno, .inl (cI, 96, .inl Fno))] sz (fun (r : Int32) (u : (Nat → Int32)) => r.toInt = 0 ∧ (0 ≤ (u 0).toInt ∧ (u 0).toInt ≤ 10)) (fun u => [(h0, .inr (4, [.int 0, .int 0, .ref ywi, .ref yki, .ref yse, .ref yno, .ref yrh, .ref yrw, .ref yrk, .ref yrt, .int yrp, .int yrq, .ref ytx, .int yle, .int yat, .int yfa, .ref yby, .ref ylo, .ref yhi, .int yac, .int ynx, .ref yro, .ref ygl, .int ysn, .ref yso, .ref ysp, .ref ysw, .long ysd, .ref yik, .ref ykp])), (yno, .inl (cI, 96, .inl u))]) 0 0 := by
  refine begins (l := l) (y := yX4_gladWithout) (ws := wsX4_gladWithout) (av := [.ref h0, .int n]) (Qc := fun A => va_Qi (fun (r : Int32) (u : (Nat → Int32)) => r.toInt = 0 ∧ (0 ≤ (u 0).toInt ∧ (u 0).toInt ≤ 10)) (fun u => Wd D cI cZ cM A ((fun u => [(h0, .inr (4, [.int 0, .int 0, .ref ywi, .ref yki, .ref yse, .ref yno, .ref yrh, .ref yrw, .ref yrk, .ref yrt, .int yrp, .int yrq, .ref ytx, .int yle, .int yat, .int yfa, .ref yby, .ref ylo, .ref yhi, .int yac, .int ynx, .ref yro, .ref ygl, .int ysn, .ref yso, .ref ysp, .ref ysw, .long ysd, .ref yik, .ref ykp])), (yno, .inl (cI, 96, .inl u))]) u)) A) cX4_gladWithout 2 (some .int) (by decide) rfl (Nat.le_of_ble_eq_true rfl) ?_
  intro p e s m args below meth c R Q A ls hBd hR hQ hA hS hK hP hD hl
  obtain ⟨hx, hb, hr, hts, hown, hlocks, hin, hml⟩ := hBd
  have hl : lv_has ls 2 [(0, .ref h0), (1, .int n)] := hl
  have iX4 : ∀ w ∈ wsX40, w ∈ wsX4_gladWithout := fun _ h => List.mem_cons_of_mem _ (List.mem_append_right _ h)
  obtain ⟨h_fa, h_fb⟩ := h_f
  refine lv_aload_n hx hb dX4_gladWithout_0 rfl (lv_at hl 0 rfl) ?_
  refine cV_v (As := []) (rest := []) ⟨hx, hb, hml, hown, hts⟩ (c_X4_layTrial l D cI cZ cM h0 0 0 ywi yki yse yno yrh yrw yrk yrt yrp yrq ytx yle yat yfa yby ylo yhi yac ynx yro ygl ysn yso ysp ysw ysd yik ykp Fno _ ) (cwV 0 hts gX4_gladWithout_X4_layTrial rfl rfl rfl (by decide +kernel) ⟨by rw [hR]; decide, by rw [hR]; decide⟩) hK hP hD hS hA [0, 1] [] rfl rfl (by decide) (by decide) (by decide) rfl 0 rfl hl.1 rfl rfl (Nat.le_of_ble_eq_true rfl) dX4_gladWithout_1 ⟨by rw [hR]; decide, by rw [hR]; decide⟩ (fun u_3 H locs hw hP hD hS => ?_)
  obtain ⟨Gno_1, rfl⟩ : ∃ z, z = u_3 := ⟨_, rfl⟩
  have hP : va_P D vwCl [(h0, .inr (4, [.int 0, .int 0, .ref ywi, .ref yki, .ref yse, .ref yno, .ref yrh, .ref yrw, .ref yrk, .ref yrt, .int yrp, .int yrq, .ref ytx, .int yle, .int yat, .int yfa, .ref yby, .ref ylo, .ref yhi, .int yac, .int ynx, .ref yro, .ref ygl, .int ysn, .ref yso, .ref ysp, .ref ysw, .long ysd, .ref yik, .ref ykp])), (yno, .inl (cI, 96, .inl Gno_1))] H := hP.sub [0, 1] rfl
  have hD : va_D A [(h0, .inr (4, [.int 0, .int 0, .ref ywi, .ref yki, .ref yse, .ref yno, .ref yrh, .ref yrw, .ref yrk, .ref yrt, .int yrp, .int yrq, .ref ytx, .int yle, .int yat, .int yfa, .ref yby, .ref ylo, .ref yhi, .int yac, .int ynx, .ref yro, .ref ygl, .int ysn, .ref yso, .ref ysp, .ref ysw, .long ysd, .ref yik, .ref ykp])), (yno, .inl (cI, 96, .inl Gno_1))] := hD.sub [0, 1] (by decide) rfl
  refine W.widen (k := 0) (n := 0) (Nat.le_refl _) (Nat.le_refl _) ?_
  have hw : (Gno_1 48).toInt = (Fno 0).toInt ∧ (Gno_1 0).toInt = (Fno 0).toInt := hw
  have hw_4 := hw
  obtain ⟨hw_4a, hw_4b⟩ := hw_4
  refine lv_aload_n hx hb dX4_gladWithout_4 rfl (lv_at hl 0 rfl) ?_
  refine lv_iload_n hx hb dX4_gladWithout_5 rfl (lv_at hl 1 rfl) ?_
  refine cV_v (As := [.int n]) (rest := []) ⟨hx, hb, hml, hown, hts⟩ (c_X4_loseTrial0 l D cI cZ cM h0 n 0 ywi yki yse yno yrh yrw yrk yrt yrp yrq ytx yle yat yfa yby ylo yhi yac ynx yro ygl ysn yso ysp ysw ysd yik ykp _ ) (cwV 1 hts gX4_gladWithout_X4_loseTrial rfl rfl rfl (by decide +kernel) ⟨by rw [hR]; decide, by rw [hR]; decide⟩) hK hP hD hS hA [0] [1] rfl rfl (by decide) (by decide) (by decide) rfl 0 rfl hl.1 rfl rfl (Nat.le_of_ble_eq_true rfl) dX4_gladWithout_6 ⟨by rw [hR]; decide, by rw [hR]; decide⟩ (fun u_6 H locs hw hP hD hS => ?_)
  have hP : va_P D vwCl [(h0, .inr (4, [.int 0, .int 0, .ref ywi, .ref yki, .ref yse, .ref yno, .ref yrh, .ref yrw, .ref yrk, .ref yrt, .int yrp, .int yrq, .ref ytx, .int yle, .int yat, .int yfa, .ref yby, .ref ylo, .ref yhi, .int yac, .int ynx, .ref yro, .ref ygl, .int ysn, .ref yso, .ref ysp, .ref ysw, .long ysd, .ref yik, .ref ykp])), (yno, .inl (cI, 96, .inl Gno_1))] H := hP.sub [1, 0] rfl
  have hD : va_D A [(h0, .inr (4, [.int 0, .int 0, .ref ywi, .ref yki, .ref yse, .ref yno, .ref yrh, .ref yrw, .ref yrk, .ref yrt, .int yrp, .int yrq, .ref ytx, .int yle, .int yat, .int yfa, .ref yby, .ref ylo, .ref yhi, .int yac, .int ynx, .ref yro, .ref ygl, .int ysn, .ref yso, .ref ysp, .ref ysw, .long ysd, .ref yik, .ref ykp])), (yno, .inl (cI, 96, .inl Gno_1))] := hD.sub [1, 0] (by decide) rfl
  refine W.widen (k := 0) (n := 0) (Nat.le_refl _) (Nat.le_refl _) ?_
  refine lv_aload_n hx hb dX4_gladWithout_9 rfl (lv_at hl 0 rfl) ?_
  refine lv_aload_n hx hb dX4_gladWithout_10 rfl (lv_at hl 0 rfl) ?_
  refine va_get (D := D) (ci := 4) (v := .int 0) (C := RX4) (T := TX4) (N := 30) hx hb hts iX4 hown hK hP 0 rfl rfl 1 (by decide) (hts (.fieldLink RX4 101 "PunchedTicketModel" "tickets" "I") (List.mem_of_getElem? (i := 1) rfl)) (fun _ h9 => h9) rfl dX4_gladWithout_11 ?_
  refine cV_i (As := [.int 0]) (rest := []) ⟨hx, hb, hml, hown, hts⟩ (c_X4_passAll0 l D cI cZ cM h0 0 0 ywi yki yse yno yrh yrw yrk yrt yrp yrq ytx yle yat yfa yby ylo yhi yac ynx yro ygl ysn yso ysp ysw ysd yik ykp Gno_1 _ (show 0 ≤ (Gno_1 48).toInt ∧ (Gno_1 48).toInt ≤ 10 by omega)) (cwV 1 hts gX4_gladWithout_X4_passAll rfl rfl rfl (by decide +kernel) ⟨by rw [hR]; decide, by rw [hR]; decide⟩) hK hP hD hS hA [0, 1] [] rfl rfl (by decide) (by decide) (by decide) rfl 0 rfl hl.1 rfl rfl (Nat.le_of_ble_eq_true rfl) dX4_gladWithout_14 ⟨by rw [hR]; decide, by rw [hR]; decide⟩ (fun r_8 u_9 H locs hw hP hD hS => ?_)
  obtain ⟨Gno_7, rfl⟩ : ∃ z, z = u_9 := ⟨_, rfl⟩
  have hP : va_P D vwCl [(h0, .inr (4, [.int 0, .int 0, .ref ywi, .ref yki, .ref yse, .ref yno, .ref yrh, .ref yrw, .ref yrk, .ref yrt, .int yrp, .int yrq, .ref ytx, .int yle, .int yat, .int yfa, .ref yby, .ref ylo, .ref yhi, .int yac, .int ynx, .ref yro, .ref ygl, .int ysn, .ref yso, .ref ysp, .ref ysw, .long ysd, .ref yik, .ref ykp])), (yno, .inl (cI, 96, .inl Gno_7))] H := hP.sub [0, 1] rfl
  have hD : va_D A [(h0, .inr (4, [.int 0, .int 0, .ref ywi, .ref yki, .ref yse, .ref yno, .ref yrh, .ref yrw, .ref yrk, .ref yrt, .int yrp, .int yrq, .ref ytx, .int yle, .int yat, .int yfa, .ref yby, .ref ylo, .ref yhi, .int yac, .int ynx, .ref yro, .ref ygl, .int ysn, .ref yso, .ref ysp, .ref ysw, .long ysd, .ref yik, .ref ykp])), (yno, .inl (cI, 96, .inl Gno_7))] := hD.sub [0, 1] (by decide) rfl
  refine W.widen (k := 0) (n := 0) (Nat.le_refl _) (Nat.le_refl _) ?_
  have hw : (Gno_7 0).toInt = (Gno_1 0).toInt := hw
  have hw_10 := hw
  refine lv_pop hx hb dX4_gladWithout_17 rfl ?_
  refine lv_aload_n hx hb dX4_gladWithout_18 rfl (lv_at hl 0 rfl) ?_
  refine cV_i (As := []) (rest := []) ⟨hx, hb, hml, hown, hts⟩ (c_X4_gladOf0 l D cI cZ cM h0 0 ywi yki yse yno yrh yrw yrk yrt yrp yrq ytx yle yat yfa yby ylo yhi yac ynx yro ygl ysn yso ysp ysw ysd yik ykp _ ) (cwV 0 hts gX4_gladWithout_X4_gladOf rfl rfl rfl (by decide +kernel) ⟨by rw [hR]; decide, by rw [hR]; decide⟩) hK hP hD hS hA [0] [1] rfl rfl (by decide) (by decide) (by decide) rfl 0 rfl hl.1 rfl rfl (Nat.le_of_ble_eq_true rfl) dX4_gladWithout_19 ⟨by rw [hR]; decide, by rw [hR]; decide⟩ (fun r_11 u_12 H locs hw hP hD hS => ?_)
  have hP : va_P D vwCl [(h0, .inr (4, [.int 0, .int 0, .ref ywi, .ref yki, .ref yse, .ref yno, .ref yrh, .ref yrw, .ref yrk, .ref yrt, .int yrp, .int yrq, .ref ytx, .int yle, .int yat, .int yfa, .ref yby, .ref ylo, .ref yhi, .int yac, .int ynx, .ref yro, .ref ygl, .int ysn, .ref yso, .ref ysp, .ref ysw, .long ysd, .ref yik, .ref ykp])), (yno, .inl (cI, 96, .inl Gno_7))] H := hP.sub [1, 0] rfl
  have hD : va_D A [(h0, .inr (4, [.int 0, .int 0, .ref ywi, .ref yki, .ref yse, .ref yno, .ref yrh, .ref yrw, .ref yrk, .ref yrt, .int yrp, .int yrq, .ref ytx, .int yle, .int yat, .int yfa, .ref yby, .ref ylo, .ref yhi, .int yac, .int ynx, .ref yro, .ref ygl, .int ysn, .ref yso, .ref ysp, .ref ysw, .long ysd, .ref yik, .ref ykp])), (yno, .inl (cI, 96, .inl Gno_7))] := hD.sub [1, 0] (by decide) rfl
  refine W.widen (k := 0) (n := 0) (Nat.le_refl _) (Nat.le_refl _) ?_
  have hw : r_11.toInt = 0 := hw
  have hw_13 := hw
  exact ret_i (post := (fun (r : Int32) (u : (Nat → Int32)) => r.toInt = 0 ∧ (0 ≤ (u 0).toInt ∧ (u 0).toInt ≤ 10))) (W1 := (fun u => [(h0, .inr (4, [.int 0, .int 0, .ref ywi, .ref yki, .ref yse, .ref yno, .ref yrh, .ref yrw, .ref yrk, .ref yrt, .int yrp, .int yrq, .ref ytx, .int yle, .int yat, .int yfa, .ref yby, .ref ylo, .ref yhi, .int yac, .int ynx, .ref yro, .ref ygl, .int ysn, .ref yso, .ref ysp, .ref ysw, .long ysd, .ref yik, .ref ykp])), (yno, .inl (cI, 96, .inl u))])) Gno_7 hx hb hr hlocks rfl hQ hK hP hD hS ⟨by decide, by decide⟩ dX4_gladWithout_22 (show r_11.toInt = 0 ∧ (0 ≤ (Gno_7 0).toInt ∧ (Gno_7 0).toInt ≤ 10) by omega)
