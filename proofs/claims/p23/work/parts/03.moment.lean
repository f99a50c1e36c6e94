theorem dX0_hasPerson_0 : decode cX0_hasPerson 0 = .ok (.iload_n 1, 1) := by decide +kernel
theorem dX0_hasPerson_1 : decode cX0_hasPerson 1 = .ok (.ifCond .lt 15, 3) := by decide +kernel
theorem dX0_hasPerson_4 : decode cX0_hasPerson 4 = .ok (.iload_n 1, 1) := by decide +kernel
theorem dX0_hasPerson_5 : decode cX0_hasPerson 5 = .ok (.aload_n 0, 1) := by decide +kernel
theorem dX0_hasPerson_6 : decode cX0_hasPerson 6 = .ok (.getfield 9, 3) := by decide +kernel
theorem dX0_hasPerson_9 : decode cX0_hasPerson 9 = .ok (.if_icmp .ge 7, 3) := by decide +kernel
theorem dX0_hasPerson_12 : decode cX0_hasPerson 12 = .ok (.iconst 1, 1) := by decide +kernel
theorem dX0_hasPerson_13 : decode cX0_hasPerson 13 = .ok (.goto 4, 3) := by decide +kernel
theorem dX0_hasPerson_16 : decode cX0_hasPerson 16 = .ok (.iconst 0, 1) := by decide +kernel
theorem dX0_hasPerson_17 : decode cX0_hasPerson 17 = .ok (.ireturn, 1) := by decide +kernel
theorem dX1_copy_0 : decode cX1_copy 0 = .ok (.aload_n 0, 1) := by decide +kernel
theorem dX1_copy_1 : decode cX1_copy 1 = .ok (.aload_n 1, 1) := by decide +kernel
theorem dX1_copy_2 : decode cX1_copy 2 = .ok (.getfield 9, 3) := by decide +kernel
theorem dX1_copy_5 : decode cX1_copy 5 = .ok (.putfield 9, 3) := by decide +kernel
theorem dX1_copy_8 : decode cX1_copy 8 = .ok (.aload_n 0, 1) := by decide +kernel
theorem dX1_copy_9 : decode cX1_copy 9 = .ok (.aload_n 1, 1) := by decide +kernel
theorem dX1_copy_10 : decode cX1_copy 10 = .ok (.getfield 15, 3) := by decide +kernel
theorem dX1_copy_13 : decode cX1_copy 13 = .ok (.putfield 15, 3) := by decide +kernel
theorem dX1_copy_16 : decode cX1_copy 16 = .ok (.aload_n 0, 1) := by decide +kernel
theorem dX1_copy_17 : decode cX1_copy 17 = .ok (.aload_n 1, 1) := by decide +kernel
theorem dX1_copy_18 : decode cX1_copy 18 = .ok (.getfield 18, 3) := by decide +kernel
theorem dX1_copy_21 : decode cX1_copy 21 = .ok (.putfield 18, 3) := by decide +kernel
theorem dX1_copy_24 : decode cX1_copy 24 = .ok (.aload_n 0, 1) := by decide +kernel
theorem dX1_copy_25 : decode cX1_copy 25 = .ok (.aload_n 1, 1) := by decide +kernel
theorem dX1_copy_26 : decode cX1_copy 26 = .ok (.getfield 21, 3) := by decide +kernel
theorem dX1_copy_29 : decode cX1_copy 29 = .ok (.putfield 21, 3) := by decide +kernel
theorem dX1_copy_32 : decode cX1_copy 32 = .ok (.aload_n 1, 1) := by decide +kernel
theorem dX1_copy_33 : decode cX1_copy 33 = .ok (.getfield 24, 3) := by decide +kernel
theorem dX1_copy_36 : decode cX1_copy 36 = .ok (.iconst 0, 1) := by decide +kernel
theorem dX1_copy_37 : decode cX1_copy 37 = .ok (.aload_n 0, 1) := by decide +kernel
theorem dX1_copy_38 : decode cX1_copy 38 = .ok (.getfield 24, 3) := by decide +kernel
theorem dX1_copy_41 : decode cX1_copy 41 = .ok (.iconst 0, 1) := by decide +kernel
theorem dX1_copy_42 : decode cX1_copy 42 = .ok (.iconst 5, 1) := by decide +kernel
theorem dX1_copy_43 : decode cX1_copy 43 = .ok (.invokestatic 44, 3) := by decide +kernel
theorem dX1_copy_46 : decode cX1_copy 46 = .ok (.aload_n 1, 1) := by decide +kernel
theorem dX1_copy_47 : decode cX1_copy 47 = .ok (.getfield 28, 3) := by decide +kernel
theorem dX1_copy_50 : decode cX1_copy 50 = .ok (.iconst 0, 1) := by decide +kernel
theorem dX1_copy_51 : decode cX1_copy 51 = .ok (.aload_n 0, 1) := by decide +kernel
theorem dX1_copy_52 : decode cX1_copy 52 = .ok (.getfield 28, 3) := by decide +kernel
theorem dX1_copy_55 : decode cX1_copy 55 = .ok (.iconst 0, 1) := by decide +kernel
theorem dX1_copy_56 : decode cX1_copy 56 = .ok (.bipush 6, 2) := by decide +kernel
theorem dX1_copy_58 : decode cX1_copy 58 = .ok (.invokestatic 44, 3) := by decide +kernel
theorem dX1_copy_61 : decode cX1_copy 61 = .ok (.aload_n 1, 1) := by decide +kernel
theorem dX1_copy_62 : decode cX1_copy 62 = .ok (.getfield 31, 3) := by decide +kernel
theorem dX1_copy_65 : decode cX1_copy 65 = .ok (.iconst 0, 1) := by decide +kernel
theorem dX1_copy_66 : decode cX1_copy 66 = .ok (.aload_n 0, 1) := by decide +kernel
theorem dX1_copy_67 : decode cX1_copy 67 = .ok (.getfield 31, 3) := by decide +kernel
theorem dX1_copy_70 : decode cX1_copy 70 = .ok (.iconst 0, 1) := by decide +kernel
theorem dX1_copy_71 : decode cX1_copy 71 = .ok (.bipush 6, 2) := by decide +kernel
theorem dX1_copy_73 : decode cX1_copy 73 = .ok (.invokestatic 44, 3) := by decide +kernel
theorem dX1_copy_76 : decode cX1_copy 76 = .ok (.return_, 1) := by decide +kernel
theorem dX1_hasTicket_0 : decode cX1_hasTicket 0 = .ok (.iload_n 1, 1) := by decide +kernel
theorem dX1_hasTicket_1 : decode cX1_hasTicket 1 = .ok (.ifCond .lt 15, 3) := by decide +kernel
theorem dX1_hasTicket_4 : decode cX1_hasTicket 4 = .ok (.iload_n 1, 1) := by decide +kernel
theorem dX1_hasTicket_5 : decode cX1_hasTicket 5 = .ok (.aload_n 0, 1) := by decide +kernel
theorem dX1_hasTicket_6 : decode cX1_hasTicket 6 = .ok (.getfield 15, 3) := by decide +kernel
theorem dX1_hasTicket_9 : decode cX1_hasTicket 9 = .ok (.if_icmp .ge 7, 3) := by decide +kernel
theorem dX1_hasTicket_12 : decode cX1_hasTicket 12 = .ok (.iconst 1, 1) := by decide +kernel
theorem dX1_hasTicket_13 : decode cX1_hasTicket 13 = .ok (.goto 4, 3) := by decide +kernel
theorem dX1_hasTicket_16 : decode cX1_hasTicket 16 = .ok (.iconst 0, 1) := by decide +kernel
theorem dX1_hasTicket_17 : decode cX1_hasTicket 17 = .ok (.ireturn, 1) := by decide +kernel
theorem dX1_isGone_0 : decode cX1_isGone 0 = .ok (.aload_n 0, 1) := by decide +kernel
theorem dX1_isGone_1 : decode cX1_isGone 1 = .ok (.getfield 21, 3) := by decide +kernel
theorem dX1_isGone_4 : decode cX1_isGone 4 = .ok (.iload_n 1, 1) := by decide +kernel
theorem dX1_isGone_5 : decode cX1_isGone 5 = .ok (.ishr, 1) := by decide +kernel
theorem dX1_isGone_6 : decode cX1_isGone 6 = .ok (.iconst 1, 1) := by decide +kernel
theorem dX1_isGone_7 : decode cX1_isGone 7 = .ok (.iand, 1) := by decide +kernel
theorem dX1_isGone_8 : decode cX1_isGone 8 = .ok (.ifCond .eq 7, 3) := by decide +kernel
theorem dX1_isGone_11 : decode cX1_isGone 11 = .ok (.iconst 1, 1) := by decide +kernel
theorem dX1_isGone_12 : decode cX1_isGone 12 = .ok (.goto 4, 3) := by decide +kernel
theorem dX1_isGone_15 : decode cX1_isGone 15 = .ok (.iconst 0, 1) := by decide +kernel
theorem dX1_isGone_16 : decode cX1_isGone 16 = .ok (.ireturn, 1) := by decide +kernel
theorem dX1_isReturn_0 : decode cX1_isReturn 0 = .ok (.aload_n 0, 1) := by decide +kernel
theorem dX1_isReturn_1 : decode cX1_isReturn 1 = .ok (.getfield 18, 3) := by decide +kernel
theorem dX1_isReturn_4 : decode cX1_isReturn 4 = .ok (.iload_n 1, 1) := by decide +kernel
theorem dX1_isReturn_5 : decode cX1_isReturn 5 = .ok (.ishr, 1) := by decide +kernel
theorem dX1_isReturn_6 : decode cX1_isReturn 6 = .ok (.iconst 1, 1) := by decide +kernel
theorem dX1_isReturn_7 : decode cX1_isReturn 7 = .ok (.iand, 1) := by decide +kernel
theorem dX1_isReturn_8 : decode cX1_isReturn 8 = .ok (.ifCond .eq 7, 3) := by decide +kernel
theorem dX1_isReturn_11 : decode cX1_isReturn 11 = .ok (.iconst 1, 1) := by decide +kernel
theorem dX1_isReturn_12 : decode cX1_isReturn 12 = .ok (.goto 4, 3) := by decide +kernel
theorem dX1_isReturn_15 : decode cX1_isReturn 15 = .ok (.iconst 0, 1) := by decide +kernel
theorem dX1_isReturn_16 : decode cX1_isReturn 16 = .ok (.ireturn, 1) := by decide +kernel
set_option maxRecDepth 20000 in
theorem ggX1_to_X1_isReturn : GoodIn wsX1_to wsX1_isReturn := goodIn_r _ [8, 9, 10, 11, 12, 13, 14, 15, 16, 17] rfl (by decide +kernel)
set_option maxRecDepth 20000 in
theorem gX1_to_X1_isReturn : GoodIn wsX1_to (wsV RX1 52 RX1 yX1_isReturn wsX1_isReturn) := goodIn_app (goodIn_r _ [4, 5, 6, 7] rfl (by decide +kernel)) ggX1_to_X1_isReturn
theorem dX1_to_0 : decode cX1_to 0 = .ok (.aload_n 0, 1) := by decide +kernel
theorem dX1_to_1 : decode cX1_to 1 = .ok (.iload_n 1, 1) := by decide +kernel
theorem dX1_to_2 : decode cX1_to 2 = .ok (.invokevirtual 52, 3) := by decide +kernel
theorem dX1_to_5 : decode cX1_to 5 = .ok (.ifCond .eq 15, 3) := by decide +kernel
theorem dX1_to_8 : decode cX1_to 8 = .ok (.aload_n 0, 1) := by decide +kernel
theorem dX1_to_9 : decode cX1_to 9 = .ok (.getfield 34, 3) := by decide +kernel
theorem dX1_to_12 : decode cX1_to 12 = .ok (.getfield 59, 3) := by decide +kernel
theorem dX1_to_15 : decode cX1_to 15 = .ok (.iload_n 1, 1) := by decide +kernel
theorem dX1_to_16 : decode cX1_to 16 = .ok (.iaload, 1) := by decide +kernel
theorem dX1_to_17 : decode cX1_to 17 = .ok (.goto 12, 3) := by decide +kernel
theorem dX1_to_20 : decode cX1_to 20 = .ok (.aload_n 0, 1) := by decide +kernel
theorem dX1_to_21 : decode cX1_to 21 = .ok (.getfield 34, 3) := by decide +kernel
theorem dX1_to_24 : decode cX1_to 24 = .ok (.getfield 56, 3) := by decide +kernel
theorem dX1_to_27 : decode cX1_to 27 = .ok (.iload_n 1, 1) := by decide +kernel
theorem dX1_to_28 : decode cX1_to 28 = .ok (.iaload, 1) := by decide +kernel
theorem dX1_to_29 : decode cX1_to 29 = .ok (.ireturn, 1) := by decide +kernel
theorem dX1_canTake_0 : decode cX1_canTake 0 = .ok (.iconst 1, 1) := by decide +kernel
theorem dX1_canTake_1 : decode cX1_canTake 1 = .ok (.iload_n 1, 1) := by decide +kernel
theorem dX1_canTake_2 : decode cX1_canTake 2 = .ok (.ishl, 1) := by decide +kernel
theorem dX1_canTake_3 : decode cX1_canTake 3 = .ok (.istore_n 3, 1) := by decide +kernel
theorem dX1_canTake_4 : decode cX1_canTake 4 = .ok (.aload_n 0, 1) := by decide +kernel
theorem dX1_canTake_5 : decode cX1_canTake 5 = .ok (.getfield 18, 3) := by decide +kernel
theorem dX1_canTake_8 : decode cX1_canTake 8 = .ok (.iload_n 3, 1) := by decide +kernel
theorem dX1_canTake_9 : decode cX1_canTake 9 = .ok (.iand, 1) := by decide +kernel
theorem dX1_canTake_10 : decode cX1_canTake 10 = .ok (.ifCond .eq 15, 3) := by decide +kernel
theorem dX1_canTake_13 : decode cX1_canTake 13 = .ok (.aload_n 0, 1) := by decide +kernel
theorem dX1_canTake_14 : decode cX1_canTake 14 = .ok (.getfield 34, 3) := by decide +kernel
theorem dX1_canTake_17 : decode cX1_canTake 17 = .ok (.getfield 56, 3) := by decide +kernel
theorem dX1_canTake_20 : decode cX1_canTake 20 = .ok (.iload_n 1, 1) := by decide +kernel
theorem dX1_canTake_21 : decode cX1_canTake 21 = .ok (.iaload, 1) := by decide +kernel
theorem dX1_canTake_22 : decode cX1_canTake 22 = .ok (.goto 12, 3) := by decide +kernel
theorem dX1_canTake_25 : decode cX1_canTake 25 = .ok (.aload_n 0, 1) := by decide +kernel
theorem dX1_canTake_26 : decode cX1_canTake 26 = .ok (.getfield 34, 3) := by decide +kernel
theorem dX1_canTake_29 : decode cX1_canTake 29 = .ok (.getfield 59, 3) := by decide +kernel
theorem dX1_canTake_32 : decode cX1_canTake 32 = .ok (.iload_n 1, 1) := by decide +kernel
theorem dX1_canTake_33 : decode cX1_canTake 33 = .ok (.iaload, 1) := by decide +kernel
theorem dX1_canTake_34 : decode cX1_canTake 34 = .ok (.istore 4, 2) := by decide +kernel
theorem dX1_canTake_36 : decode cX1_canTake 36 = .ok (.aload_n 0, 1) := by decide +kernel
theorem dX1_canTake_37 : decode cX1_canTake 37 = .ok (.getfield 21, 3) := by decide +kernel
theorem dX1_canTake_40 : decode cX1_canTake 40 = .ok (.iload_n 3, 1) := by decide +kernel
theorem dX1_canTake_41 : decode cX1_canTake 41 = .ok (.iand, 1) := by decide +kernel
theorem dX1_canTake_42 : decode cX1_canTake 42 = .ok (.ifCond .ne 31, 3) := by decide +kernel
theorem dX1_canTake_45 : decode cX1_canTake 45 = .ok (.aload_n 0, 1) := by decide +kernel
theorem dX1_canTake_46 : decode cX1_canTake 46 = .ok (.getfield 34, 3) := by decide +kernel
theorem dX1_canTake_49 : decode cX1_canTake 49 = .ok (.getfield 78, 3) := by decide +kernel
theorem dX1_canTake_52 : decode cX1_canTake 52 = .ok (.iload_n 2, 1) := by decide +kernel
theorem dX1_canTake_53 : decode cX1_canTake 53 = .ok (.iaload, 1) := by decide +kernel
theorem dX1_canTake_54 : decode cX1_canTake 54 = .ok (.iconst 3, 1) := by decide +kernel
theorem dX1_canTake_55 : decode cX1_canTake 55 = .ok (.if_icmp .eq 18, 3) := by decide +kernel
theorem dX1_canTake_58 : decode cX1_canTake 58 = .ok (.iload 4, 2) := by decide +kernel
theorem dX1_canTake_60 : decode cX1_canTake 60 = .ok (.aload_n 0, 1) := by decide +kernel
theorem dX1_canTake_61 : decode cX1_canTake 61 = .ok (.getfield 24, 3) := by decide +kernel
theorem dX1_canTake_64 : decode cX1_canTake 64 = .ok (.iload_n 2, 1) := by decide +kernel
theorem dX1_canTake_65 : decode cX1_canTake 65 = .ok (.iaload, 1) := by decide +kernel
theorem dX1_canTake_66 : decode cX1_canTake 66 = .ok (.if_icmp .ne 7, 3) := by decide +kernel
theorem dX1_canTake_69 : decode cX1_canTake 69 = .ok (.iconst 1, 1) := by decide +kernel
theorem dX1_canTake_70 : decode cX1_canTake 70 = .ok (.goto 4, 3) := by decide +kernel
theorem dX1_canTake_73 : decode cX1_canTake 73 = .ok (.iconst 0, 1) := by decide +kernel
theorem dX1_canTake_74 : decode cX1_canTake 74 = .ok (.ireturn, 1) := by decide +kernel
set_option maxHeartbeats 600000 in
set_option maxRecDepth 100000 in
theorem c_X0_hasPerson (l : Launch) (D : va_G) (cI cZ cM : ClassId) (h0 : Nat) (n : Int32) (lpe : Int32) (ltk : Int32) (lho : Nat) (lli : Nat) (lki : Nat) (lfd : Nat) (lfr : Nat) (lto : Nat) (lse : Nat) (lhl : Nat) (sz : Nat)  : Ci l yX0_hasPerson wsX0_hasPerson ({ frames := 0, cells := 0, slots := 0, locals := 0 } : Room) D cI cZ cM [.ref h0, .int n] [(h0, .inr (0, [.int lpe, .int ltk, .ref lho, .ref lli, .ref lki, .ref lfd, .ref lfr, .ref lto, .ref lse, .ref lhl]))] sz (fun (r : Int32) (u : Unit) => (r.toInt = 1 ∧ 0 ≤ n.toInt ∧ n.toInt < lpe.toInt) ∨ (r.toInt = 0 ∧ (n.toInt < 0 ∨ lpe.toInt ≤ n.toInt))) (fun u => [(h0, .inr (0, [.int lpe, .int ltk, .ref lho, .ref lli, .ref lki, .ref lfd, .ref lfr, .ref lto, .ref lse, .ref lhl]))]) 0 0 := by
  refine begins (l := l) (y := yX0_hasPerson) (ws := wsX0_hasPerson) (av := [.ref h0, .int n]) (Qc := fun A => va_Qi (fun (r : Int32) (u : Unit) => (r.toInt = 1 ∧ 0 ≤ n.toInt ∧ n.toInt < lpe.toInt) ∨ (r.toInt = 0 ∧ (n.toInt < 0 ∨ lpe.toInt ≤ n.toInt))) (fun u => Wd D cI cZ cM A ((fun u => [(h0, .inr (0, [.int lpe, .int ltk, .ref lho, .ref lli, .ref lki, .ref lfd, .ref lfr, .ref lto, .ref lse, .ref lhl]))]) u)) A) cX0_hasPerson 2 (some .boolean) (by decide) rfl (Nat.le_of_ble_eq_true rfl) ?_
  intro p e s m args below meth c R Q A ls hBd hR hQ hA hS hK hP hD hl
  obtain ⟨hx, hb, hr, hts, hown, hlocks, hin, hml⟩ := hBd
  have hl : lv_has ls 2 [(0, .ref h0), (1, .int n)] := hl
  have iX0 : ∀ w ∈ wsX00, w ∈ wsX0_hasPerson := fun _ h => List.mem_cons_of_mem _ (List.mem_append_right _ h)
  refine lv_iload_n hx hb dX0_hasPerson_0 rfl (lv_at hl 1 rfl) ?_
  refine lv_if_lt (tgt := 16) hx hb dX0_hasPerson_1 (by decide) (fun c_1 => ?_) (fun c_1 => ?_)
  · have tc_1 := b_lt rfl (show (0 : Int32).toInt = 0 by decide) c_1
    refine lv_iconst (v := 0) hx hb dX0_hasPerson_16 (by decide) ?_
    exact ret_i (post := (fun (r : Int32) (u : Unit) => (r.toInt = 1 ∧ 0 ≤ n.toInt ∧ n.toInt < lpe.toInt) ∨ (r.toInt = 0 ∧ (n.toInt < 0 ∨ lpe.toInt ≤ n.toInt)))) (W1 := (fun u => [(h0, .inr (0, [.int lpe, .int ltk, .ref lho, .ref lli, .ref lki, .ref lfd, .ref lfr, .ref lto, .ref lse, .ref lhl]))])) () hx hb hr hlocks rfl hQ hK hP hD hS ⟨by decide, by decide⟩ dX0_hasPerson_17 (show ((0 : Int) = 1 ∧ 0 ≤ n.toInt ∧ n.toInt < lpe.toInt) ∨ ((0 : Int) = 0 ∧ (n.toInt < 0 ∨ lpe.toInt ≤ n.toInt)) by omega)
  · have tc_1 := b_nlt rfl (show (0 : Int32).toInt = 0 by decide) c_1
    refine lv_iload_n hx hb dX0_hasPerson_4 rfl (lv_at hl 1 rfl) ?_
    refine lv_aload_n hx hb dX0_hasPerson_5 rfl (lv_at hl 0 rfl) ?_
    refine va_get (D := D) (ci := 0) (v := .int lpe) (C := RX0) (T := TX0) (N := 10) hx hb hts iX0 hown hK hP 0 rfl rfl 0 (by decide) (hts (.fieldLink RX0 9 "PunchedTicket$Line" "people" "I") (List.mem_of_getElem? (i := 1) rfl)) (fun _ h9 => h9) rfl dX0_hasPerson_6 ?_
    refine lv_icmp_ge (tgt := 16) hx hb dX0_hasPerson_9 (by decide) (fun c_2 => ?_) (fun c_2 => ?_)
    · have tc_2 := b_le rfl rfl c_2
      refine lv_iconst (v := 0) hx hb dX0_hasPerson_16 (by decide) ?_
      exact ret_i (post := (fun (r : Int32) (u : Unit) => (r.toInt = 1 ∧ 0 ≤ n.toInt ∧ n.toInt < lpe.toInt) ∨ (r.toInt = 0 ∧ (n.toInt < 0 ∨ lpe.toInt ≤ n.toInt)))) (W1 := (fun u => [(h0, .inr (0, [.int lpe, .int ltk, .ref lho, .ref lli, .ref lki, .ref lfd, .ref lfr, .ref lto, .ref lse, .ref lhl]))])) () hx hb hr hlocks rfl hQ hK hP hD hS ⟨by decide, by decide⟩ dX0_hasPerson_17 (show ((0 : Int) = 1 ∧ 0 ≤ n.toInt ∧ n.toInt < lpe.toInt) ∨ ((0 : Int) = 0 ∧ (n.toInt < 0 ∨ lpe.toInt ≤ n.toInt)) by omega)
    · have tc_2 := b_nle rfl rfl c_2
      refine lv_iconst (v := 1) hx hb dX0_hasPerson_12 (by decide) ?_
      refine lv_goto (tgt := 17) hx hb dX0_hasPerson_13 (by decide) ?_
      exact ret_i (post := (fun (r : Int32) (u : Unit) => (r.toInt = 1 ∧ 0 ≤ n.toInt ∧ n.toInt < lpe.toInt) ∨ (r.toInt = 0 ∧ (n.toInt < 0 ∨ lpe.toInt ≤ n.toInt)))) (W1 := (fun u => [(h0, .inr (0, [.int lpe, .int ltk, .ref lho, .ref lli, .ref lki, .ref lfd, .ref lfr, .ref lto, .ref lse, .ref lhl]))])) () hx hb hr hlocks rfl hQ hK hP hD hS ⟨by decide, by decide⟩ dX0_hasPerson_17 (show ((1 : Int) = 1 ∧ 0 ≤ n.toInt ∧ n.toInt < lpe.toInt) ∨ ((1 : Int) = 0 ∧ (n.toInt < 0 ∨ lpe.toInt ≤ n.toInt)) by omega)

set_option maxHeartbeats 600000 in
set_option maxRecDepth 100000 in
theorem c_X1_hasTicket (l : Launch) (D : va_G) (cI cZ cM : ClassId) (h0 : Nat) (n : Int32) (ln : Nat) (md : Int32) (mt : Int32) (mr : Int32) (mg : Int32) (mat : Nat) (mfd : Nat) (mhd : Nat) (sz : Nat)  : Ci l yX1_hasTicket wsX1_hasTicket ({ frames := 0, cells := 0, slots := 0, locals := 0 } : Room) D cI cZ cM [.ref h0, .int n] [(h0, .inr (1, [.ref ln, .int md, .int mt, .int mr, .int mg, .ref mat, .ref mfd, .ref mhd]))] sz (fun (r : Int32) (u : Unit) => (r.toInt = 1 ∧ 0 ≤ n.toInt ∧ n.toInt < mt.toInt) ∨ (r.toInt = 0 ∧ (n.toInt < 0 ∨ mt.toInt ≤ n.toInt))) (fun u => [(h0, .inr (1, [.ref ln, .int md, .int mt, .int mr, .int mg, .ref mat, .ref mfd, .ref mhd]))]) 0 0 := by
  refine begins (l := l) (y := yX1_hasTicket) (ws := wsX1_hasTicket) (av := [.ref h0, .int n]) (Qc := fun A => va_Qi (fun (r : Int32) (u : Unit) => (r.toInt = 1 ∧ 0 ≤ n.toInt ∧ n.toInt < mt.toInt) ∨ (r.toInt = 0 ∧ (n.toInt < 0 ∨ mt.toInt ≤ n.toInt))) (fun u => Wd D cI cZ cM A ((fun u => [(h0, .inr (1, [.ref ln, .int md, .int mt, .int mr, .int mg, .ref mat, .ref mfd, .ref mhd]))]) u)) A) cX1_hasTicket 2 (some .boolean) (by decide) rfl (Nat.le_of_ble_eq_true rfl) ?_
  intro p e s m args below meth c R Q A ls hBd hR hQ hA hS hK hP hD hl
  obtain ⟨hx, hb, hr, hts, hown, hlocks, hin, hml⟩ := hBd
  have hl : lv_has ls 2 [(0, .ref h0), (1, .int n)] := hl
  have iX1 : ∀ w ∈ wsX10, w ∈ wsX1_hasTicket := fun _ h => List.mem_cons_of_mem _ (List.mem_append_right _ h)
  refine lv_iload_n hx hb dX1_hasTicket_0 rfl (lv_at hl 1 rfl) ?_
  refine lv_if_lt (tgt := 16) hx hb dX1_hasTicket_1 (by decide) (fun c_1 => ?_) (fun c_1 => ?_)
  · have tc_1 := b_lt rfl (show (0 : Int32).toInt = 0 by decide) c_1
    refine lv_iconst (v := 0) hx hb dX1_hasTicket_16 (by decide) ?_
    exact ret_i (post := (fun (r : Int32) (u : Unit) => (r.toInt = 1 ∧ 0 ≤ n.toInt ∧ n.toInt < mt.toInt) ∨ (r.toInt = 0 ∧ (n.toInt < 0 ∨ mt.toInt ≤ n.toInt)))) (W1 := (fun u => [(h0, .inr (1, [.ref ln, .int md, .int mt, .int mr, .int mg, .ref mat, .ref mfd, .ref mhd]))])) () hx hb hr hlocks rfl hQ hK hP hD hS ⟨by decide, by decide⟩ dX1_hasTicket_17 (show ((0 : Int) = 1 ∧ 0 ≤ n.toInt ∧ n.toInt < mt.toInt) ∨ ((0 : Int) = 0 ∧ (n.toInt < 0 ∨ mt.toInt ≤ n.toInt)) by omega)
  · have tc_1 := b_nlt rfl (show (0 : Int32).toInt = 0 by decide) c_1
    refine lv_iload_n hx hb dX1_hasTicket_4 rfl (lv_at hl 1 rfl) ?_
    refine lv_aload_n hx hb dX1_hasTicket_5 rfl (lv_at hl 0 rfl) ?_
    refine va_get (D := D) (ci := 1) (v := .int mt) (C := RX1) (T := TX1) (N := 8) hx hb hts iX1 hown hK hP 0 rfl rfl 2 (by decide) (hts (.fieldLink RX1 15 "PunchedTicket$Moment" "tickets" "I") (List.mem_of_getElem? (i := 1) rfl)) (fun _ h9 => h9) rfl dX1_hasTicket_6 ?_
    refine lv_icmp_ge (tgt := 16) hx hb dX1_hasTicket_9 (by decide) (fun c_2 => ?_) (fun c_2 => ?_)
    · have tc_2 := b_le rfl rfl c_2
      refine lv_iconst (v := 0) hx hb dX1_hasTicket_16 (by decide) ?_
      exact ret_i (post := (fun (r : Int32) (u : Unit) => (r.toInt = 1 ∧ 0 ≤ n.toInt ∧ n.toInt < mt.toInt) ∨ (r.toInt = 0 ∧ (n.toInt < 0 ∨ mt.toInt ≤ n.toInt)))) (W1 := (fun u => [(h0, .inr (1, [.ref ln, .int md, .int mt, .int mr, .int mg, .ref mat, .ref mfd, .ref mhd]))])) () hx hb hr hlocks rfl hQ hK hP hD hS ⟨by decide, by decide⟩ dX1_hasTicket_17 (show ((0 : Int) = 1 ∧ 0 ≤ n.toInt ∧ n.toInt < mt.toInt) ∨ ((0 : Int) = 0 ∧ (n.toInt < 0 ∨ mt.toInt ≤ n.toInt)) by omega)
    · have tc_2 := b_nle rfl rfl c_2
      refine lv_iconst (v := 1) hx hb dX1_hasTicket_12 (by decide) ?_
      refine lv_goto (tgt := 17) hx hb dX1_hasTicket_13 (by decide) ?_
      exact ret_i (post := (fun (r : Int32) (u : Unit) => (r.toInt = 1 ∧ 0 ≤ n.toInt ∧ n.toInt < mt.toInt) ∨ (r.toInt = 0 ∧ (n.toInt < 0 ∨ mt.toInt ≤ n.toInt)))) (W1 := (fun u => [(h0, .inr (1, [.ref ln, .int md, .int mt, .int mr, .int mg, .ref mat, .ref mfd, .ref mhd]))])) () hx hb hr hlocks rfl hQ hK hP hD hS ⟨by decide, by decide⟩ dX1_hasTicket_17 (show ((1 : Int) = 1 ∧ 0 ≤ n.toInt ∧ n.toInt < mt.toInt) ∨ ((1 : Int) = 0 ∧ (n.toInt < 0 ∨ mt.toInt ≤ n.toInt)) by omega)

set_option maxHeartbeats 600000 in
set_option maxRecDepth 100000 in
theorem c_X1_isReturn (l : Launch) (D : va_G) (cI cZ cM : ClassId) (h0 : Nat) (n : Int32) (ln : Nat) (md : Int32) (mt : Int32) (mr : Int32) (mg : Int32) (mat : Nat) (mfd : Nat) (mhd : Nat) (sz : Nat)  : Ci l yX1_isReturn wsX1_isReturn ({ frames := 0, cells := 0, slots := 0, locals := 0 } : Room) D cI cZ cM [.ref h0, .int n] [(h0, .inr (1, [.ref ln, .int md, .int mt, .int mr, .int mg, .ref mat, .ref mfd, .ref mhd]))] sz (fun (r : Int32) (u : Unit) => (r.toInt = 0 ∨ r.toInt = 1)) (fun u => [(h0, .inr (1, [.ref ln, .int md, .int mt, .int mr, .int mg, .ref mat, .ref mfd, .ref mhd]))]) 0 0 := by
  refine begins (l := l) (y := yX1_isReturn) (ws := wsX1_isReturn) (av := [.ref h0, .int n]) (Qc := fun A => va_Qi (fun (r : Int32) (u : Unit) => (r.toInt = 0 ∨ r.toInt = 1)) (fun u => Wd D cI cZ cM A ((fun u => [(h0, .inr (1, [.ref ln, .int md, .int mt, .int mr, .int mg, .ref mat, .ref mfd, .ref mhd]))]) u)) A) cX1_isReturn 2 (some .boolean) (by decide) rfl (Nat.le_of_ble_eq_true rfl) ?_
  intro p e s m args below meth c R Q A ls hBd hR hQ hA hS hK hP hD hl
  obtain ⟨hx, hb, hr, hts, hown, hlocks, hin, hml⟩ := hBd
  have hl : lv_has ls 2 [(0, .ref h0), (1, .int n)] := hl
  have iX1 : ∀ w ∈ wsX10, w ∈ wsX1_isReturn := fun _ h => List.mem_cons_of_mem _ (List.mem_append_right _ h)
  refine lv_aload_n hx hb dX1_isReturn_0 rfl (lv_at hl 0 rfl) ?_
  refine va_get (D := D) (ci := 1) (v := .int mr) (C := RX1) (T := TX1) (N := 8) hx hb hts iX1 hown hK hP 0 rfl rfl 3 (by decide) (hts (.fieldLink RX1 18 "PunchedTicket$Moment" "returns" "I") (List.mem_of_getElem? (i := 1) rfl)) (fun _ h9 => h9) rfl dX1_isReturn_1 ?_
  refine lv_iload_n hx hb dX1_isReturn_4 rfl (lv_at hl 1 rfl) ?_
  refine lv_ishr hx hb dX1_isReturn_5 ?_
  refine lv_topi (fun v_1 ev_1 => ?_)
  refine lv_iconst (v := 1) hx hb dX1_isReturn_6 (by decide) ?_
  refine lv_iand hx hb dX1_isReturn_7 ?_
  refine lv_topi (fun v_2 ev_2 => ?_)
  refine lv_if_eq (tgt := 15) hx hb dX1_isReturn_8 (by decide) (fun c_3 => ?_) (fun c_3 => ?_)
  · have tc_3 := b_eq rfl (show (0 : Int32).toInt = 0 by decide) c_3
    refine lv_iconst (v := 0) hx hb dX1_isReturn_15 (by decide) ?_
    exact ret_i (post := (fun (r : Int32) (u : Unit) => (r.toInt = 0 ∨ r.toInt = 1))) (W1 := (fun u => [(h0, .inr (1, [.ref ln, .int md, .int mt, .int mr, .int mg, .ref mat, .ref mfd, .ref mhd]))])) () hx hb hr hlocks rfl hQ hK hP hD hS ⟨by decide, by decide⟩ dX1_isReturn_16 (show ((0 : Int) = 0 ∨ (0 : Int) = 1) by omega)
  · have tc_3 := b_ne rfl (show (0 : Int32).toInt = 0 by decide) c_3
    refine lv_iconst (v := 1) hx hb dX1_isReturn_11 (by decide) ?_
    refine lv_goto (tgt := 16) hx hb dX1_isReturn_12 (by decide) ?_
    exact ret_i (post := (fun (r : Int32) (u : Unit) => (r.toInt = 0 ∨ r.toInt = 1))) (W1 := (fun u => [(h0, .inr (1, [.ref ln, .int md, .int mt, .int mr, .int mg, .ref mat, .ref mfd, .ref mhd]))])) () hx hb hr hlocks rfl hQ hK hP hD hS ⟨by decide, by decide⟩ dX1_isReturn_16 (show ((1 : Int) = 0 ∨ (1 : Int) = 1) by omega)

set_option maxHeartbeats 600000 in
set_option maxRecDepth 100000 in
theorem c_X1_isGone (l : Launch) (D : va_G) (cI cZ cM : ClassId) (h0 : Nat) (n : Int32) (ln : Nat) (md : Int32) (mt : Int32) (mr : Int32) (mg : Int32) (mat : Nat) (mfd : Nat) (mhd : Nat) (sz : Nat)  : Ci l yX1_isGone wsX1_isGone ({ frames := 0, cells := 0, slots := 0, locals := 0 } : Room) D cI cZ cM [.ref h0, .int n] [(h0, .inr (1, [.ref ln, .int md, .int mt, .int mr, .int mg, .ref mat, .ref mfd, .ref mhd]))] sz (fun (r : Int32) (u : Unit) => (r.toInt = 0 ∨ r.toInt = 1)) (fun u => [(h0, .inr (1, [.ref ln, .int md, .int mt, .int mr, .int mg, .ref mat, .ref mfd, .ref mhd]))]) 0 0 := by
  refine begins (l := l) (y := yX1_isGone) (ws := wsX1_isGone) (av := [.ref h0, .int n]) (Qc := fun A => va_Qi (fun (r : Int32) (u : Unit) => (r.toInt = 0 ∨ r.toInt = 1)) (fun u => Wd D cI cZ cM A ((fun u => [(h0, .inr (1, [.ref ln, .int md, .int mt, .int mr, .int mg, .ref mat, .ref mfd, .ref mhd]))]) u)) A) cX1_isGone 2 (some .boolean) (by decide) rfl (Nat.le_of_ble_eq_true rfl) ?_
  intro p e s m args below meth c R Q A ls hBd hR hQ hA hS hK hP hD hl
  obtain ⟨hx, hb, hr, hts, hown, hlocks, hin, hml⟩ := hBd
  have hl : lv_has ls 2 [(0, .ref h0), (1, .int n)] := hl
  have iX1 : ∀ w ∈ wsX10, w ∈ wsX1_isGone := fun _ h => List.mem_cons_of_mem _ (List.mem_append_right _ h)
  refine lv_aload_n hx hb dX1_isGone_0 rfl (lv_at hl 0 rfl) ?_
  refine va_get (D := D) (ci := 1) (v := .int mg) (C := RX1) (T := TX1) (N := 8) hx hb hts iX1 hown hK hP 0 rfl rfl 4 (by decide) (hts (.fieldLink RX1 21 "PunchedTicket$Moment" "gone" "I") (List.mem_of_getElem? (i := 1) rfl)) (fun _ h9 => h9) rfl dX1_isGone_1 ?_
  refine lv_iload_n hx hb dX1_isGone_4 rfl (lv_at hl 1 rfl) ?_
  refine lv_ishr hx hb dX1_isGone_5 ?_
  refine lv_topi (fun v_1 ev_1 => ?_)
  refine lv_iconst (v := 1) hx hb dX1_isGone_6 (by decide) ?_
  refine lv_iand hx hb dX1_isGone_7 ?_
  refine lv_topi (fun v_2 ev_2 => ?_)
  refine lv_if_eq (tgt := 15) hx hb dX1_isGone_8 (by decide) (fun c_3 => ?_) (fun c_3 => ?_)
  · have tc_3 := b_eq rfl (show (0 : Int32).toInt = 0 by decide) c_3
    refine lv_iconst (v := 0) hx hb dX1_isGone_15 (by decide) ?_
    exact ret_i (post := (fun (r : Int32) (u : Unit) => (r.toInt = 0 ∨ r.toInt = 1))) (W1 := (fun u => [(h0, .inr (1, [.ref ln, .int md, .int mt, .int mr, .int mg, .ref mat, .ref mfd, .ref mhd]))])) () hx hb hr hlocks rfl hQ hK hP hD hS ⟨by decide, by decide⟩ dX1_isGone_16 (show ((0 : Int) = 0 ∨ (0 : Int) = 1) by omega)
  · have tc_3 := b_ne rfl (show (0 : Int32).toInt = 0 by decide) c_3
    refine lv_iconst (v := 1) hx hb dX1_isGone_11 (by decide) ?_
    refine lv_goto (tgt := 16) hx hb dX1_isGone_12 (by decide) ?_
    exact ret_i (post := (fun (r : Int32) (u : Unit) => (r.toInt = 0 ∨ r.toInt = 1))) (W1 := (fun u => [(h0, .inr (1, [.ref ln, .int md, .int mt, .int mr, .int mg, .ref mat, .ref mfd, .ref mhd]))])) () hx hb hr hlocks rfl hQ hK hP hD hS ⟨by decide, by decide⟩ dX1_isGone_16 (show ((1 : Int) = 0 ∨ (1 : Int) = 1) by omega)

set_option maxHeartbeats 600000 in
set_option maxRecDepth 100000 in
theorem c_X1_to (l : Launch) (D : va_G) (cI cZ cM : ClassId) (h0 : Nat) (n : Int32) (ln : Nat) (md : Int32) (mt : Int32) (mr : Int32) (mg : Int32) (mat : Nat) (mfd : Nat) (mhd : Nat) (lpe : Int32) (ltk : Int32) (lho : Nat) (lli : Nat) (lki : Nat) (lfd : Nat) (lfr : Nat) (lto : Nat) (lse : Nat) (lhl : Nat) (lFto : Nat → Int32) (lFfr : Nat → Int32) (sz : Nat) (h_n : 0 ≤ n.toInt ∧ n.toInt ≤ 6) : Ci l yX1_to wsX1_to ({ frames := 1, cells := 0, slots := 0, locals := 21 } : Room) D cI cZ cM [.ref h0, .int n] [(h0, .inr (1, [.ref ln, .int md, .int mt, .int mr, .int mg, .ref mat, .ref mfd, .ref mhd])), (ln, .inr (0, [.int lpe, .int ltk, .ref lho, .ref lli, .ref lki, .ref lfd, .ref lfr, .ref lto, .ref lse, .ref lhl])), (lto, .inl (cI, 7, .inl lFto)), (lfr, .inl (cI, 7, .inl lFfr))] sz (fun (r : Int32) (u : Unit) => True) (fun u => [(h0, .inr (1, [.ref ln, .int md, .int mt, .int mr, .int mg, .ref mat, .ref mfd, .ref mhd])), (ln, .inr (0, [.int lpe, .int ltk, .ref lho, .ref lli, .ref lki, .ref lfd, .ref lfr, .ref lto, .ref lse, .ref lhl])), (lto, .inl (cI, 7, .inl lFto)), (lfr, .inl (cI, 7, .inl lFfr))]) 0 0 := by
  refine begins (l := l) (y := yX1_to) (ws := wsX1_to) (av := [.ref h0, .int n]) (Qc := fun A => va_Qi (fun (r : Int32) (u : Unit) => True) (fun u => Wd D cI cZ cM A ((fun u => [(h0, .inr (1, [.ref ln, .int md, .int mt, .int mr, .int mg, .ref mat, .ref mfd, .ref mhd])), (ln, .inr (0, [.int lpe, .int ltk, .ref lho, .ref lli, .ref lki, .ref lfd, .ref lfr, .ref lto, .ref lse, .ref lhl])), (lto, .inl (cI, 7, .inl lFto)), (lfr, .inl (cI, 7, .inl lFfr))]) u)) A) cX1_to 2 (some .int) (by decide) rfl (Nat.le_of_ble_eq_true rfl) ?_
  intro p e s m args below meth c R Q A ls hBd hR hQ hA hS hK hP hD hl
  obtain ⟨hx, hb, hr, hts, hown, hlocks, hin, hml⟩ := hBd
  have hl : lv_has ls 2 [(0, .ref h0), (1, .int n)] := hl
  have iX1 : ∀ w ∈ wsX10, w ∈ wsX1_to := fun _ h => List.mem_cons_of_mem _ (List.mem_append_left _ (List.mem_append_right _ h))
  have iX0 : ∀ w ∈ wsX00, w ∈ wsX1_to := fun _ h => List.mem_cons_of_mem _ (List.mem_append_right _ h)
  obtain ⟨h_na, h_nb⟩ := h_n
  refine lv_aload_n hx hb dX1_to_0 rfl (lv_at hl 0 rfl) ?_
  refine lv_iload_n hx hb dX1_to_1 rfl (lv_at hl 1 rfl) ?_
  refine cV_i (As := [.int n]) (rest := []) ⟨hx, hb, hml, hown, hts⟩ (c_X1_isReturn l D cI cZ cM h0 n ln md mt mr mg mat mfd mhd _ ) (cwV 1 hts gX1_to_X1_isReturn rfl rfl rfl (by decide +kernel) ⟨by rw [hR]; decide, by rw [hR]; decide⟩) hK hP hD hS hA [0] [1, 2, 3] rfl rfl (by decide) (by decide) (by decide) rfl 0 rfl hl.1 rfl rfl (Nat.le_of_ble_eq_true rfl) dX1_to_2 ⟨by rw [hR]; decide, by rw [hR]; decide⟩ (fun r_1 u_2 H locs hw hP hD hS => ?_)
  have hP : va_P D vwCl [(h0, .inr (1, [.ref ln, .int md, .int mt, .int mr, .int mg, .ref mat, .ref mfd, .ref mhd])), (ln, .inr (0, [.int lpe, .int ltk, .ref lho, .ref lli, .ref lki, .ref lfd, .ref lfr, .ref lto, .ref lse, .ref lhl])), (lto, .inl (cI, 7, .inl lFto)), (lfr, .inl (cI, 7, .inl lFfr))] H := hP.sub [3, 0, 1, 2] rfl
  have hD : va_D A [(h0, .inr (1, [.ref ln, .int md, .int mt, .int mr, .int mg, .ref mat, .ref mfd, .ref mhd])), (ln, .inr (0, [.int lpe, .int ltk, .ref lho, .ref lli, .ref lki, .ref lfd, .ref lfr, .ref lto, .ref lse, .ref lhl])), (lto, .inl (cI, 7, .inl lFto)), (lfr, .inl (cI, 7, .inl lFfr))] := hD.sub [3, 0, 1, 2] (by decide) rfl
  refine W.widen (k := 0) (n := 0) (Nat.le_refl _) (Nat.le_refl _) ?_
  have hw : (r_1.toInt = 0 ∨ r_1.toInt = 1) := hw
  have hw_3 := hw
  refine lv_if_eq (tgt := 20) hx hb dX1_to_5 (by decide) (fun c_4 => ?_) (fun c_4 => ?_)
  · have tc_4 := b_eq rfl (show (0 : Int32).toInt = 0 by decide) c_4
    refine lv_aload_n hx hb dX1_to_20 rfl (lv_at hl 0 rfl) ?_
    refine va_get (D := D) (ci := 1) (v := .ref ln) (C := RX1) (T := TX1) (N := 8) hx hb hts iX1 hown hK hP 0 rfl rfl 0 (by decide) (hts (.fieldLink RX1 34 "PunchedTicket$Moment" "line" "LPunchedTicket$Line;") (List.mem_of_getElem? (i := 1) rfl)) (fun _ h9 => h9) rfl dX1_to_21 ?_
    refine va_get (D := D) (ci := 0) (v := .ref lto) (C := RX0) (T := TX0) (N := 10) hx hb hts iX0 hown hK hP 1 rfl rfl 7 (by decide) (hts (.fieldLink RX1 56 "PunchedTicket$Line" "to" "[I") (List.mem_of_getElem? (i := 3) rfl)) (fun _ h9 => h9) rfl dX1_to_24 ?_
    refine lv_iload_n hx hb dX1_to_27 rfl (lv_at hl 1 rfl) ?_
    refine va_iald hx hb hK hP 2 0 rfl rfl (vp_in_iff.mpr ⟨by omega, by omega⟩) dX1_to_28 ?_
    refine lv_topi (fun v_5 ev_5 => ?_)
    exact ret_i (post := (fun (r : Int32) (u : Unit) => True)) (W1 := (fun u => [(h0, .inr (1, [.ref ln, .int md, .int mt, .int mr, .int mg, .ref mat, .ref mfd, .ref mhd])), (ln, .inr (0, [.int lpe, .int ltk, .ref lho, .ref lli, .ref lki, .ref lfd, .ref lfr, .ref lto, .ref lse, .ref lhl])), (lto, .inl (cI, 7, .inl lFto)), (lfr, .inl (cI, 7, .inl lFfr))])) () hx hb hr hlocks rfl hQ hK hP hD hS ⟨by decide, by decide⟩ dX1_to_29 trivial
  · have tc_4 := b_ne rfl (show (0 : Int32).toInt = 0 by decide) c_4
    refine lv_aload_n hx hb dX1_to_8 rfl (lv_at hl 0 rfl) ?_
    refine va_get (D := D) (ci := 1) (v := .ref ln) (C := RX1) (T := TX1) (N := 8) hx hb hts iX1 hown hK hP 0 rfl rfl 0 (by decide) (hts (.fieldLink RX1 34 "PunchedTicket$Moment" "line" "LPunchedTicket$Line;") (List.mem_of_getElem? (i := 1) rfl)) (fun _ h9 => h9) rfl dX1_to_9 ?_
    refine va_get (D := D) (ci := 0) (v := .ref lfr) (C := RX0) (T := TX0) (N := 10) hx hb hts iX0 hown hK hP 1 rfl rfl 6 (by decide) (hts (.fieldLink RX1 59 "PunchedTicket$Line" "from" "[I") (List.mem_of_getElem? (i := 2) rfl)) (fun _ h9 => h9) rfl dX1_to_12 ?_
    refine lv_iload_n hx hb dX1_to_15 rfl (lv_at hl 1 rfl) ?_
    refine va_iald hx hb hK hP 3 0 rfl rfl (vp_in_iff.mpr ⟨by omega, by omega⟩) dX1_to_16 ?_
    refine lv_topi (fun v_6 ev_6 => ?_)
    refine lv_goto (tgt := 29) hx hb dX1_to_17 (by decide) ?_
    exact ret_i (post := (fun (r : Int32) (u : Unit) => True)) (W1 := (fun u => [(h0, .inr (1, [.ref ln, .int md, .int mt, .int mr, .int mg, .ref mat, .ref mfd, .ref mhd])), (ln, .inr (0, [.int lpe, .int ltk, .ref lho, .ref lli, .ref lki, .ref lfd, .ref lfr, .ref lto, .ref lse, .ref lhl])), (lto, .inl (cI, 7, .inl lFto)), (lfr, .inl (cI, 7, .inl lFfr))])) () hx hb hr hlocks rfl hQ hK hP hD hS ⟨by decide, by decide⟩ dX1_to_29 trivial

set_option maxHeartbeats 600000 in
set_option maxRecDepth 100000 in
theorem c_X1_canTake (l : Launch) (D : va_G) (cI cZ cM : ClassId) (h0 : Nat) (n : Int32) (k : Int32) (ln : Nat) (md : Int32) (mt : Int32) (mr : Int32) (mg : Int32) (mat : Nat) (mfd : Nat) (mhd : Nat) (lpe : Int32) (ltk : Int32) (lho : Nat) (lli : Nat) (lki : Nat) (lfd : Nat) (lfr : Nat) (lto : Nat) (lse : Nat) (lhl : Nat) (lFto : Nat → Int32) (lFfr : Nat → Int32) (lFki : Nat → Int32) (mFat : Nat → Int32) (sz : Nat) (h_n : 0 ≤ n.toInt ∧ n.toInt ≤ 6) (h_k : 0 ≤ k.toInt ∧ k.toInt ≤ 4) : Ci l yX1_canTake wsX1_canTake ({ frames := 0, cells := 0, slots := 0, locals := 0 } : Room) D cI cZ cM [.ref h0, .int n, .int k] [(h0, .inr (1, [.ref ln, .int md, .int mt, .int mr, .int mg, .ref mat, .ref mfd, .ref mhd])), (ln, .inr (0, [.int lpe, .int ltk, .ref lho, .ref lli, .ref lki, .ref lfd, .ref lfr, .ref lto, .ref lse, .ref lhl])), (lto, .inl (cI, 7, .inl lFto)), (lfr, .inl (cI, 7, .inl lFfr)), (lki, .inl (cI, 5, .inl lFki)), (mat, .inl (cI, 5, .inl mFat))] sz (fun (r : Int32) (u : Unit) => (r.toInt = 0 ∨ r.toInt = 1)) (fun u => [(h0, .inr (1, [.ref ln, .int md, .int mt, .int mr, .int mg, .ref mat, .ref mfd, .ref mhd])), (ln, .inr (0, [.int lpe, .int ltk, .ref lho, .ref lli, .ref lki, .ref lfd, .ref lfr, .ref lto, .ref lse, .ref lhl])), (lto, .inl (cI, 7, .inl lFto)), (lfr, .inl (cI, 7, .inl lFfr)), (lki, .inl (cI, 5, .inl lFki)), (mat, .inl (cI, 5, .inl mFat))]) 0 0 := by
  refine begins (l := l) (y := yX1_canTake) (ws := wsX1_canTake) (av := [.ref h0, .int n, .int k]) (Qc := fun A => va_Qi (fun (r : Int32) (u : Unit) => (r.toInt = 0 ∨ r.toInt = 1)) (fun u => Wd D cI cZ cM A ((fun u => [(h0, .inr (1, [.ref ln, .int md, .int mt, .int mr, .int mg, .ref mat, .ref mfd, .ref mhd])), (ln, .inr (0, [.int lpe, .int ltk, .ref lho, .ref lli, .ref lki, .ref lfd, .ref lfr, .ref lto, .ref lse, .ref lhl])), (lto, .inl (cI, 7, .inl lFto)), (lfr, .inl (cI, 7, .inl lFfr)), (lki, .inl (cI, 5, .inl lFki)), (mat, .inl (cI, 5, .inl mFat))]) u)) A) cX1_canTake 5 (some .boolean) (by decide) rfl (Nat.le_of_ble_eq_true rfl) ?_
  intro p e s m args below meth c R Q A ls hBd hR hQ hA hS hK hP hD hl
  obtain ⟨hx, hb, hr, hts, hown, hlocks, hin, hml⟩ := hBd
  have hl : lv_has ls 5 [(0, .ref h0), (1, .int n), (2, .int k)] := hl
  have iX1 : ∀ w ∈ wsX10, w ∈ wsX1_canTake := fun _ h => List.mem_cons_of_mem _ (List.mem_append_left _ (List.mem_append_right _ h))
  have iX0 : ∀ w ∈ wsX00, w ∈ wsX1_canTake := fun _ h => List.mem_cons_of_mem _ (List.mem_append_right _ h)
  obtain ⟨h_na, h_nb⟩ := h_n
  obtain ⟨h_ka, h_kb⟩ := h_k
  refine lv_iconst (v := 1) hx hb dX1_canTake_0 (by decide) ?_
  refine lv_iload_n hx hb dX1_canTake_1 rfl (lv_at hl 1 rfl) ?_
  refine lv_ishl hx hb dX1_canTake_2 ?_
  refine lv_topi (fun v_1 ev_1 => ?_)
  refine lv_istore_n (lv' := [(3, .int v_1), (0, .ref h0), (1, .int n), (2, .int k)]) hx hb dX1_canTake_3 rfl hl (by decide) rfl (fun ls hl => ?_)
  refine lv_aload_n hx hb dX1_canTake_4 rfl (lv_at hl 1 rfl) ?_
  refine va_get (D := D) (ci := 1) (v := .int mr) (C := RX1) (T := TX1) (N := 8) hx hb hts iX1 hown hK hP 0 rfl rfl 3 (by decide) (hts (.fieldLink RX1 18 "PunchedTicket$Moment" "returns" "I") (List.mem_of_getElem? (i := 1) rfl)) (fun _ h9 => h9) rfl dX1_canTake_5 ?_
  refine lv_iload_n hx hb dX1_canTake_8 rfl (lv_at hl 0 rfl) ?_
  refine lv_iand hx hb dX1_canTake_9 ?_
  refine lv_topi (fun v_2 ev_2 => ?_)
  refine lv_if_eq (tgt := 25) hx hb dX1_canTake_10 (by decide) (fun c_3 => ?_) (fun c_3 => ?_)
  · have tc_3 := b_eq rfl (show (0 : Int32).toInt = 0 by decide) c_3
    refine lv_aload_n hx hb dX1_canTake_25 rfl (lv_at hl 1 rfl) ?_
    refine va_get (D := D) (ci := 1) (v := .ref ln) (C := RX1) (T := TX1) (N := 8) hx hb hts iX1 hown hK hP 0 rfl rfl 0 (by decide) (hts (.fieldLink RX1 34 "PunchedTicket$Moment" "line" "LPunchedTicket$Line;") (List.mem_of_getElem? (i := 2) rfl)) (fun _ h9 => h9) rfl dX1_canTake_26 ?_
    refine va_get (D := D) (ci := 0) (v := .ref lfr) (C := RX0) (T := TX0) (N := 10) hx hb hts iX0 hown hK hP 1 rfl rfl 6 (by decide) (hts (.fieldLink RX1 59 "PunchedTicket$Line" "from" "[I") (List.mem_of_getElem? (i := 4) rfl)) (fun _ h9 => h9) rfl dX1_canTake_29 ?_
    refine lv_iload_n hx hb dX1_canTake_32 rfl (lv_at hl 2 rfl) ?_
    refine va_iald hx hb hK hP 3 0 rfl rfl (vp_in_iff.mpr ⟨by omega, by omega⟩) dX1_canTake_33 ?_
    refine lv_topi (fun v_4 ev_4 => ?_)
    refine lv_istore (lv' := [(4, .int v_4), (3, .int v_1), (0, .ref h0), (1, .int n), (2, .int k)]) hx hb dX1_canTake_34 hl (by decide) rfl (fun ls hl => ?_)
    refine lv_aload_n hx hb dX1_canTake_36 rfl (lv_at hl 2 rfl) ?_
    refine va_get (D := D) (ci := 1) (v := .int mg) (C := RX1) (T := TX1) (N := 8) hx hb hts iX1 hown hK hP 0 rfl rfl 4 (by decide) (hts (.fieldLink RX1 21 "PunchedTicket$Moment" "gone" "I") (List.mem_of_getElem? (i := 5) rfl)) (fun _ h9 => h9) rfl dX1_canTake_37 ?_
    refine lv_iload_n hx hb dX1_canTake_40 rfl (lv_at hl 1 rfl) ?_
    refine lv_iand hx hb dX1_canTake_41 ?_
    refine lv_topi (fun v_5 ev_5 => ?_)
    refine lv_if_ne (tgt := 73) hx hb dX1_canTake_42 (by decide) (fun c_6 => ?_) (fun c_6 => ?_)
    · have tc_6 := b_ne rfl (show (0 : Int32).toInt = 0 by decide) c_6
      refine lv_iconst (v := 0) hx hb dX1_canTake_73 (by decide) ?_
      exact ret_i (post := (fun (r : Int32) (u : Unit) => (r.toInt = 0 ∨ r.toInt = 1))) (W1 := (fun u => [(h0, .inr (1, [.ref ln, .int md, .int mt, .int mr, .int mg, .ref mat, .ref mfd, .ref mhd])), (ln, .inr (0, [.int lpe, .int ltk, .ref lho, .ref lli, .ref lki, .ref lfd, .ref lfr, .ref lto, .ref lse, .ref lhl])), (lto, .inl (cI, 7, .inl lFto)), (lfr, .inl (cI, 7, .inl lFfr)), (lki, .inl (cI, 5, .inl lFki)), (mat, .inl (cI, 5, .inl mFat))])) () hx hb hr hlocks rfl hQ hK hP hD hS ⟨by decide, by decide⟩ dX1_canTake_74 (show ((0 : Int) = 0 ∨ (0 : Int) = 1) by omega)
    · have tc_6 := b_eq rfl (show (0 : Int32).toInt = 0 by decide) c_6
      refine lv_aload_n hx hb dX1_canTake_45 rfl (lv_at hl 2 rfl) ?_
      refine va_get (D := D) (ci := 1) (v := .ref ln) (C := RX1) (T := TX1) (N := 8) hx hb hts iX1 hown hK hP 0 rfl rfl 0 (by decide) (hts (.fieldLink RX1 34 "PunchedTicket$Moment" "line" "LPunchedTicket$Line;") (List.mem_of_getElem? (i := 2) rfl)) (fun _ h9 => h9) rfl dX1_canTake_46 ?_
      refine va_get (D := D) (ci := 0) (v := .ref lki) (C := RX0) (T := TX0) (N := 10) hx hb hts iX0 hown hK hP 1 rfl rfl 4 (by decide) (hts (.fieldLink RX1 78 "PunchedTicket$Line" "kind" "[I") (List.mem_of_getElem? (i := 6) rfl)) (fun _ h9 => h9) rfl dX1_canTake_49 ?_
      refine lv_iload_n hx hb dX1_canTake_52 rfl (lv_at hl 4 rfl) ?_
      refine va_iald hx hb hK hP 4 0 rfl rfl (vp_in_iff.mpr ⟨by omega, by omega⟩) dX1_canTake_53 ?_
      refine lv_topi (fun v_7 ev_7 => ?_)
      refine lv_iconst (v := 3) hx hb dX1_canTake_54 (by decide) ?_
      refine lv_icmp_eq (tgt := 73) hx hb dX1_canTake_55 (by decide) (fun c_8 => ?_) (fun c_8 => ?_)
      · have tc_8 := b_eq rfl (show (3 : Int32).toInt = 3 by decide) c_8
        refine lv_iconst (v := 0) hx hb dX1_canTake_73 (by decide) ?_
        exact ret_i (post := (fun (r : Int32) (u : Unit) => (r.toInt = 0 ∨ r.toInt = 1))) (W1 := (fun u => [(h0, .inr (1, [.ref ln, .int md, .int mt, .int mr, .int mg, .ref mat, .ref mfd, .ref mhd])), (ln, .inr (0, [.int lpe, .int ltk, .ref lho, .ref lli, .ref lki, .ref lfd, .ref lfr, .ref lto, .ref lse, .ref lhl])), (lto, .inl (cI, 7, .inl lFto)), (lfr, .inl (cI, 7, .inl lFfr)), (lki, .inl (cI, 5, .inl lFki)), (mat, .inl (cI, 5, .inl mFat))])) () hx hb hr hlocks rfl hQ hK hP hD hS ⟨by decide, by decide⟩ dX1_canTake_74 (show ((0 : Int) = 0 ∨ (0 : Int) = 1) by omega)
      · have tc_8 := b_ne rfl (show (3 : Int32).toInt = 3 by decide) c_8
        refine lv_iload hx hb dX1_canTake_58 (lv_at hl 0 rfl) ?_
        refine lv_aload_n hx hb dX1_canTake_60 rfl (lv_at hl 2 rfl) ?_
        refine va_get (D := D) (ci := 1) (v := .ref mat) (C := RX1) (T := TX1) (N := 8) hx hb hts iX1 hown hK hP 0 rfl rfl 5 (by decide) (hts (.fieldLink RX1 24 "PunchedTicket$Moment" "at" "[I") (List.mem_of_getElem? (i := 7) rfl)) (fun _ h9 => h9) rfl dX1_canTake_61 ?_
        refine lv_iload_n hx hb dX1_canTake_64 rfl (lv_at hl 4 rfl) ?_
        refine va_iald hx hb hK hP 5 0 rfl rfl (vp_in_iff.mpr ⟨by omega, by omega⟩) dX1_canTake_65 ?_
        refine lv_topi (fun v_9 ev_9 => ?_)
        refine lv_icmp_ne (tgt := 73) hx hb dX1_canTake_66 (by decide) (fun c_10 => ?_) (fun c_10 => ?_)
        · have tc_10 := b_ne rfl rfl c_10
          refine lv_iconst (v := 0) hx hb dX1_canTake_73 (by decide) ?_
          exact ret_i (post := (fun (r : Int32) (u : Unit) => (r.toInt = 0 ∨ r.toInt = 1))) (W1 := (fun u => [(h0, .inr (1, [.ref ln, .int md, .int mt, .int mr, .int mg, .ref mat, .ref mfd, .ref mhd])), (ln, .inr (0, [.int lpe, .int ltk, .ref lho, .ref lli, .ref lki, .ref lfd, .ref lfr, .ref lto, .ref lse, .ref lhl])), (lto, .inl (cI, 7, .inl lFto)), (lfr, .inl (cI, 7, .inl lFfr)), (lki, .inl (cI, 5, .inl lFki)), (mat, .inl (cI, 5, .inl mFat))])) () hx hb hr hlocks rfl hQ hK hP hD hS ⟨by decide, by decide⟩ dX1_canTake_74 (show ((0 : Int) = 0 ∨ (0 : Int) = 1) by omega)
        · have tc_10 := b_eq rfl rfl c_10
          refine lv_iconst (v := 1) hx hb dX1_canTake_69 (by decide) ?_
          refine lv_goto (tgt := 74) hx hb dX1_canTake_70 (by decide) ?_
          exact ret_i (post := (fun (r : Int32) (u : Unit) => (r.toInt = 0 ∨ r.toInt = 1))) (W1 := (fun u => [(h0, .inr (1, [.ref ln, .int md, .int mt, .int mr, .int mg, .ref mat, .ref mfd, .ref mhd])), (ln, .inr (0, [.int lpe, .int ltk, .ref lho, .ref lli, .ref lki, .ref lfd, .ref lfr, .ref lto, .ref lse, .ref lhl])), (lto, .inl (cI, 7, .inl lFto)), (lfr, .inl (cI, 7, .inl lFfr)), (lki, .inl (cI, 5, .inl lFki)), (mat, .inl (cI, 5, .inl mFat))])) () hx hb hr hlocks rfl hQ hK hP hD hS ⟨by decide, by decide⟩ dX1_canTake_74 (show ((1 : Int) = 0 ∨ (1 : Int) = 1) by omega)
  · have tc_3 := b_ne rfl (show (0 : Int32).toInt = 0 by decide) c_3
    refine lv_aload_n hx hb dX1_canTake_13 rfl (lv_at hl 1 rfl) ?_
    refine va_get (D := D) (ci := 1) (v := .ref ln) (C := RX1) (T := TX1) (N := 8) hx hb hts iX1 hown hK hP 0 rfl rfl 0 (by decide) (hts (.fieldLink RX1 34 "PunchedTicket$Moment" "line" "LPunchedTicket$Line;") (List.mem_of_getElem? (i := 2) rfl)) (fun _ h9 => h9) rfl dX1_canTake_14 ?_
    refine va_get (D := D) (ci := 0) (v := .ref lto) (C := RX0) (T := TX0) (N := 10) hx hb hts iX0 hown hK hP 1 rfl rfl 7 (by decide) (hts (.fieldLink RX1 56 "PunchedTicket$Line" "to" "[I") (List.mem_of_getElem? (i := 3) rfl)) (fun _ h9 => h9) rfl dX1_canTake_17 ?_
    refine lv_iload_n hx hb dX1_canTake_20 rfl (lv_at hl 2 rfl) ?_
    refine va_iald hx hb hK hP 2 0 rfl rfl (vp_in_iff.mpr ⟨by omega, by omega⟩) dX1_canTake_21 ?_
    refine lv_topi (fun v_11 ev_11 => ?_)
    refine lv_goto (tgt := 34) hx hb dX1_canTake_22 (by decide) ?_
    refine lv_istore (lv' := [(4, .int v_11), (3, .int v_1), (0, .ref h0), (1, .int n), (2, .int k)]) hx hb dX1_canTake_34 hl (by decide) rfl (fun ls hl => ?_)
    refine lv_aload_n hx hb dX1_canTake_36 rfl (lv_at hl 2 rfl) ?_
    refine va_get (D := D) (ci := 1) (v := .int mg) (C := RX1) (T := TX1) (N := 8) hx hb hts iX1 hown hK hP 0 rfl rfl 4 (by decide) (hts (.fieldLink RX1 21 "PunchedTicket$Moment" "gone" "I") (List.mem_of_getElem? (i := 5) rfl)) (fun _ h9 => h9) rfl dX1_canTake_37 ?_
    refine lv_iload_n hx hb dX1_canTake_40 rfl (lv_at hl 1 rfl) ?_
    refine lv_iand hx hb dX1_canTake_41 ?_
    refine lv_topi (fun v_12 ev_12 => ?_)
    refine lv_if_ne (tgt := 73) hx hb dX1_canTake_42 (by decide) (fun c_13 => ?_) (fun c_13 => ?_)
    · have tc_13 := b_ne rfl (show (0 : Int32).toInt = 0 by decide) c_13
      refine lv_iconst (v := 0) hx hb dX1_canTake_73 (by decide) ?_
      exact ret_i (post := (fun (r : Int32) (u : Unit) => (r.toInt = 0 ∨ r.toInt = 1))) (W1 := (fun u => [(h0, .inr (1, [.ref ln, .int md, .int mt, .int mr, .int mg, .ref mat, .ref mfd, .ref mhd])), (ln, .inr (0, [.int lpe, .int ltk, .ref lho, .ref lli, .ref lki, .ref lfd, .ref lfr, .ref lto, .ref lse, .ref lhl])), (lto, .inl (cI, 7, .inl lFto)), (lfr, .inl (cI, 7, .inl lFfr)), (lki, .inl (cI, 5, .inl lFki)), (mat, .inl (cI, 5, .inl mFat))])) () hx hb hr hlocks rfl hQ hK hP hD hS ⟨by decide, by decide⟩ dX1_canTake_74 (show ((0 : Int) = 0 ∨ (0 : Int) = 1) by omega)
    · have tc_13 := b_eq rfl (show (0 : Int32).toInt = 0 by decide) c_13
      refine lv_aload_n hx hb dX1_canTake_45 rfl (lv_at hl 2 rfl) ?_
      refine va_get (D := D) (ci := 1) (v := .ref ln) (C := RX1) (T := TX1) (N := 8) hx hb hts iX1 hown hK hP 0 rfl rfl 0 (by decide) (hts (.fieldLink RX1 34 "PunchedTicket$Moment" "line" "LPunchedTicket$Line;") (List.mem_of_getElem? (i := 2) rfl)) (fun _ h9 => h9) rfl dX1_canTake_46 ?_
      refine va_get (D := D) (ci := 0) (v := .ref lki) (C := RX0) (T := TX0) (N := 10) hx hb hts iX0 hown hK hP 1 rfl rfl 4 (by decide) (hts (.fieldLink RX1 78 "PunchedTicket$Line" "kind" "[I") (List.mem_of_getElem? (i := 6) rfl)) (fun _ h9 => h9) rfl dX1_canTake_49 ?_
      refine lv_iload_n hx hb dX1_canTake_52 rfl (lv_at hl 4 rfl) ?_
      refine va_iald hx hb hK hP 4 0 rfl rfl (vp_in_iff.mpr ⟨by omega, by omega⟩) dX1_canTake_53 ?_
      refine lv_topi (fun v_14 ev_14 => ?_)
      refine lv_iconst (v := 3) hx hb dX1_canTake_54 (by decide) ?_
      refine lv_icmp_eq (tgt := 73) hx hb dX1_canTake_55 (by decide) (fun c_15 => ?_) (fun c_15 => ?_)
      · have tc_15 := b_eq rfl (show (3 : Int32).toInt = 3 by decide) c_15
        refine lv_iconst (v := 0) hx hb dX1_canTake_73 (by decide) ?_
        exact ret_i (post := (fun (r : Int32) (u : Unit) => (r.toInt = 0 ∨ r.toInt = 1))) (W1 := (fun u => [(h0, .inr (1, [.ref ln, .int md, .int mt, .int mr, .int mg, .ref mat, .ref mfd, .ref mhd])), (ln, .inr (0, [.int lpe, .int ltk, .ref lho, .ref lli, .ref lki, .ref lfd, .ref lfr, .ref lto, .ref lse, .ref lhl])), (lto, .inl (cI, 7, .inl lFto)), (lfr, .inl (cI, 7, .inl lFfr)), (lki, .inl (cI, 5, .inl lFki)), (mat, .inl (cI, 5, .inl mFat))])) () hx hb hr hlocks rfl hQ hK hP hD hS ⟨by decide, by decide⟩ dX1_canTake_74 (show ((0 : Int) = 0 ∨ (0 : Int) = 1) by omega)
      · have tc_15 := b_ne rfl (show (3 : Int32).toInt = 3 by decide) c_15
        refine lv_iload hx hb dX1_canTake_58 (lv_at hl 0 rfl) ?_
        refine lv_aload_n hx hb dX1_canTake_60 rfl (lv_at hl 2 rfl) ?_
        refine va_get (D := D) (ci := 1) (v := .ref mat) (C := RX1) (T := TX1) (N := 8) hx hb hts iX1 hown hK hP 0 rfl rfl 5 (by decide) (hts (.fieldLink RX1 24 "PunchedTicket$Moment" "at" "[I") (List.mem_of_getElem? (i := 7) rfl)) (fun _ h9 => h9) rfl dX1_canTake_61 ?_
        refine lv_iload_n hx hb dX1_canTake_64 rfl (lv_at hl 4 rfl) ?_
        refine va_iald hx hb hK hP 5 0 rfl rfl (vp_in_iff.mpr ⟨by omega, by omega⟩) dX1_canTake_65 ?_
        refine lv_topi (fun v_16 ev_16 => ?_)
        refine lv_icmp_ne (tgt := 73) hx hb dX1_canTake_66 (by decide) (fun c_17 => ?_) (fun c_17 => ?_)
        · have tc_17 := b_ne rfl rfl c_17
          refine lv_iconst (v := 0) hx hb dX1_canTake_73 (by decide) ?_
          exact ret_i (post := (fun (r : Int32) (u : Unit) => (r.toInt = 0 ∨ r.toInt = 1))) (W1 := (fun u => [(h0, .inr (1, [.ref ln, .int md, .int mt, .int mr, .int mg, .ref mat, .ref mfd, .ref mhd])), (ln, .inr (0, [.int lpe, .int ltk, .ref lho, .ref lli, .ref lki, .ref lfd, .ref lfr, .ref lto, .ref lse, .ref lhl])), (lto, .inl (cI, 7, .inl lFto)), (lfr, .inl (cI, 7, .inl lFfr)), (lki, .inl (cI, 5, .inl lFki)), (mat, .inl (cI, 5, .inl mFat))])) () hx hb hr hlocks rfl hQ hK hP hD hS ⟨by decide, by decide⟩ dX1_canTake_74 (show ((0 : Int) = 0 ∨ (0 : Int) = 1) by omega)
        · have tc_17 := b_eq rfl rfl c_17
          refine lv_iconst (v := 1) hx hb dX1_canTake_69 (by decide) ?_
          refine lv_goto (tgt := 74) hx hb dX1_canTake_70 (by decide) ?_
          exact ret_i (post := (fun (r : Int32) (u : Unit) => (r.toInt = 0 ∨ r.toInt = 1))) (W1 := (fun u => [(h0, .inr (1, [.ref ln, .int md, .int mt, .int mr, .int mg, .ref mat, .ref mfd, .ref mhd])), (ln, .inr (0, [.int lpe, .int ltk, .ref lho, .ref lli, .ref lki, .ref lfd, .ref lfr, .ref lto, .ref lse, .ref lhl])), (lto, .inl (cI, 7, .inl lFto)), (lfr, .inl (cI, 7, .inl lFfr)), (lki, .inl (cI, 5, .inl lFki)), (mat, .inl (cI, 5, .inl mFat))])) () hx hb hr hlocks rfl hQ hK hP hD hS ⟨by decide, by decide⟩ dX1_canTake_74 (show ((1 : Int) = 0 ∨ (1 : Int) = 1) by omega)

set_option maxHeartbeats 600000 in
set_option maxRecDepth 100000 in
theorem c_X1_copy (l : Launch) (D : va_G) (cI cZ cM : ClassId) (h0 : Nat) (h1 : Nat) (ln : Nat) (md : Int32) (mt : Int32) (mr : Int32) (mg : Int32) (mat : Nat) (mfd : Nat) (mhd : Nat) (ql : Nat) (qd : Int32) (qt : Int32) (qr : Int32) (qg : Int32) (qat : Nat) (qfd : Nat) (qhd : Nat) (mFat : Nat → Int32) (mFfd : Nat → Int32) (mFhd : Nat → Int32) (qFat : Nat → Int32) (qFfd : Nat → Int32) (qFhd : Nat → Int32) (sz : Nat)  : Cv l yX1_copy wsX1_copy ({ frames := 1, cells := 0, slots := 0, locals := 26 } : Room) D cI cZ cM [.ref h0, .ref h1] [(h0, .inr (1, [.ref ln, .int md, .int mt, .int mr, .int mg, .ref mat, .ref mfd, .ref mhd])), (h1, .inr (1, [.ref ql, .int qd, .int qt, .int qr, .int qg, .ref qat, .ref qfd, .ref qhd])), (mat, .inl (cI, 5, .inl mFat)), (mfd, .inl (cI, 7, .inl mFfd)), (mhd, .inl (cI, 7, .inl mFhd)), (qat, .inl (cI, 5, .inl qFat)), (qfd, .inl (cI, 7, .inl qFfd)), (qhd, .inl (cI, 7, .inl qFhd))] sz (fun (u : (Nat → Int32) × (Nat → Int32) × (Nat → Int32)) => True) (fun u => [(h0, .inr (1, [.ref ln, .int qd, .int qt, .int qr, .int qg, .ref mat, .ref mfd, .ref mhd])), (h1, .inr (1, [.ref ql, .int qd, .int qt, .int qr, .int qg, .ref qat, .ref qfd, .ref qhd])), (mat, .inl (cI, 5, .inl u.1)), (mfd, .inl (cI, 7, .inl u.2.1)), (mhd, .inl (cI, 7, .inl u.2.2)), (qat, .inl (cI, 5, .inl qFat)), (qfd, .inl (cI, 7, .inl qFfd)), (qhd, .inl (cI, 7, .inl qFhd))]) 0 0 := by
  refine begins (l := l) (y := yX1_copy) (ws := wsX1_copy) (av := [.ref h0, .ref h1]) (Qc := fun A => va_Qv (fun (u : (Nat → Int32) × (Nat → Int32) × (Nat → Int32)) => True) (fun u => Wd D cI cZ cM A ((fun u => [(h0, .inr (1, [.ref ln, .int qd, .int qt, .int qr, .int qg, .ref mat, .ref mfd, .ref mhd])), (h1, .inr (1, [.ref ql, .int qd, .int qt, .int qr, .int qg, .ref qat, .ref qfd, .ref qhd])), (mat, .inl (cI, 5, .inl u.1)), (mfd, .inl (cI, 7, .inl u.2.1)), (mhd, .inl (cI, 7, .inl u.2.2)), (qat, .inl (cI, 5, .inl qFat)), (qfd, .inl (cI, 7, .inl qFfd)), (qhd, .inl (cI, 7, .inl qFhd))]) u)) A) cX1_copy 2 none (by decide) rfl (Nat.le_of_ble_eq_true rfl) ?_
  intro p e s m args below meth c R Q A ls hBd hR hQ hA hS hK hP hD hl
  obtain ⟨hx, hb, hr, hts, hown, hlocks, hin, hml⟩ := hBd
  have hl : lv_has ls 2 [(0, .ref h0), (1, .ref h1)] := hl
  have iX1 : ∀ w ∈ wsX10, w ∈ wsX1_copy := fun _ h => List.mem_cons_of_mem _ (List.mem_append_right _ h)
  refine lv_aload_n hx hb dX1_copy_0 rfl (lv_at hl 0 rfl) ?_
  refine lv_aload_n hx hb dX1_copy_1 rfl (lv_at hl 1 rfl) ?_
  refine va_get (D := D) (ci := 1) (v := .int qd) (C := RX1) (T := TX1) (N := 8) hx hb hts iX1 hown hK hP 1 rfl rfl 1 (by decide) (hts (.fieldLink RX1 9 "PunchedTicket$Moment" "day" "I") (List.mem_of_getElem? (i := 1) rfl)) (fun _ h9 => h9) rfl dX1_copy_2 ?_
  refine va_put (D := D) (ci := 1) (v := .int qd) (ty := .int) (C := RX1) (T := TX1) (N := 8) hx hb hts iX1 tyX1 tyX1_ok nmX1 hown hK hP hD hS 0 rfl rfl 1 (by decide) (hts (.fieldLink RX1 9 "PunchedTicket$Moment" "day" "I") (List.mem_of_getElem? (i := 1) rfl)) (fun _ h9 => h9) rfl (by decide +kernel) rfl rfl (Nat.le_of_ble_eq_true rfl) dX1_copy_5 (fun H locs hP hD hS => ?_)
  have hP : va_P D vwCl [(h0, .inr (1, [.ref ln, .int qd, .int mt, .int mr, .int mg, .ref mat, .ref mfd, .ref mhd])), (h1, .inr (1, [.ref ql, .int qd, .int qt, .int qr, .int qg, .ref qat, .ref qfd, .ref qhd])), (mat, .inl (cI, 5, .inl mFat)), (mfd, .inl (cI, 7, .inl mFfd)), (mhd, .inl (cI, 7, .inl mFhd)), (qat, .inl (cI, 5, .inl qFat)), (qfd, .inl (cI, 7, .inl qFfd)), (qhd, .inl (cI, 7, .inl qFhd))] H := hP
  have hD : va_D A [(h0, .inr (1, [.ref ln, .int qd, .int mt, .int mr, .int mg, .ref mat, .ref mfd, .ref mhd])), (h1, .inr (1, [.ref ql, .int qd, .int qt, .int qr, .int qg, .ref qat, .ref qfd, .ref qhd])), (mat, .inl (cI, 5, .inl mFat)), (mfd, .inl (cI, 7, .inl mFfd)), (mhd, .inl (cI, 7, .inl mFhd)), (qat, .inl (cI, 5, .inl qFat)), (qfd, .inl (cI, 7, .inl qFfd)), (qhd, .inl (cI, 7, .inl qFhd))] := hD
  refine lv_aload_n hx hb dX1_copy_8 rfl (lv_at hl 0 rfl) ?_
  refine lv_aload_n hx hb dX1_copy_9 rfl (lv_at hl 1 rfl) ?_
  refine va_get (D := D) (ci := 1) (v := .int qt) (C := RX1) (T := TX1) (N := 8) hx hb hts iX1 hown hK hP 1 rfl rfl 2 (by decide) (hts (.fieldLink RX1 15 "PunchedTicket$Moment" "tickets" "I") (List.mem_of_getElem? (i := 2) rfl)) (fun _ h9 => h9) rfl dX1_copy_10 ?_
  refine va_put (D := D) (ci := 1) (v := .int qt) (ty := .int) (C := RX1) (T := TX1) (N := 8) hx hb hts iX1 tyX1 tyX1_ok nmX1 hown hK hP hD hS 0 rfl rfl 2 (by decide) (hts (.fieldLink RX1 15 "PunchedTicket$Moment" "tickets" "I") (List.mem_of_getElem? (i := 2) rfl)) (fun _ h9 => h9) rfl (by decide +kernel) rfl rfl (Nat.le_of_ble_eq_true rfl) dX1_copy_13 (fun H locs hP hD hS => ?_)
  have hP : va_P D vwCl [(h0, .inr (1, [.ref ln, .int qd, .int qt, .int mr, .int mg, .ref mat, .ref mfd, .ref mhd])), (h1, .inr (1, [.ref ql, .int qd, .int qt, .int qr, .int qg, .ref qat, .ref qfd, .ref qhd])), (mat, .inl (cI, 5, .inl mFat)), (mfd, .inl (cI, 7, .inl mFfd)), (mhd, .inl (cI, 7, .inl mFhd)), (qat, .inl (cI, 5, .inl qFat)), (qfd, .inl (cI, 7, .inl qFfd)), (qhd, .inl (cI, 7, .inl qFhd))] H := hP
  have hD : va_D A [(h0, .inr (1, [.ref ln, .int qd, .int qt, .int mr, .int mg, .ref mat, .ref mfd, .ref mhd])), (h1, .inr (1, [.ref ql, .int qd, .int qt, .int qr, .int qg, .ref qat, .ref qfd, .ref qhd])), (mat, .inl (cI, 5, .inl mFat)), (mfd, .inl (cI, 7, .inl mFfd)), (mhd, .inl (cI, 7, .inl mFhd)), (qat, .inl (cI, 5, .inl qFat)), (qfd, .inl (cI, 7, .inl qFfd)), (qhd, .inl (cI, 7, .inl qFhd))] := hD
  refine lv_aload_n hx hb dX1_copy_16 rfl (lv_at hl 0 rfl) ?_
  refine lv_aload_n hx hb dX1_copy_17 rfl (lv_at hl 1 rfl) ?_
  refine va_get (D := D) (ci := 1) (v := .int qr) (C := RX1) (T := TX1) (N := 8) hx hb hts iX1 hown hK hP 1 rfl rfl 3 (by decide) (hts (.fieldLink RX1 18 "PunchedTicket$Moment" "returns" "I") (List.mem_of_getElem? (i := 3) rfl)) (fun _ h9 => h9) rfl dX1_copy_18 ?_
  refine va_put (D := D) (ci := 1) (v := .int qr) (ty := .int) (C := RX1) (T := TX1) (N := 8) hx hb hts iX1 tyX1 tyX1_ok nmX1 hown hK hP hD hS 0 rfl rfl 3 (by decide) (hts (.fieldLink RX1 18 "PunchedTicket$Moment" "returns" "I") (List.mem_of_getElem? (i := 3) rfl)) (fun _ h9 => h9) rfl (by decide +kernel) rfl rfl (Nat.le_of_ble_eq_true rfl) dX1_copy_21 (fun H locs hP hD hS => ?_)
  have hP : va_P D vwCl [(h0, .inr (1, [.ref ln, .int qd, .int qt, .int qr, .int mg, .ref mat, .ref mfd, .ref mhd])), (h1, .inr (1, [.ref ql, .int qd, .int qt, .int qr, .int qg, .ref qat, .ref qfd, .ref qhd])), (mat, .inl (cI, 5, .inl mFat)), (mfd, .inl (cI, 7, .inl mFfd)), (mhd, .inl (cI, 7, .inl mFhd)), (qat, .inl (cI, 5, .inl qFat)), (qfd, .inl (cI, 7, .inl qFfd)), (qhd, .inl (cI, 7, .inl qFhd))] H := hP
  have hD : va_D A [(h0, .inr (1, [.ref ln, .int qd, .int qt, .int qr, .int mg, .ref mat, .ref mfd, .ref mhd])), (h1, .inr (1, [.ref ql, .int qd, .int qt, .int qr, .int qg, .ref qat, .ref qfd, .ref qhd])), (mat, .inl (cI, 5, .inl mFat)), (mfd, .inl (cI, 7, .inl mFfd)), (mhd, .inl (cI, 7, .inl mFhd)), (qat, .inl (cI, 5, .inl qFat)), (qfd, .inl (cI, 7, .inl qFfd)), (qhd, .inl (cI, 7, .inl qFhd))] := hD
  refine lv_aload_n hx hb dX1_copy_24 rfl (lv_at hl 0 rfl) ?_
  refine lv_aload_n hx hb dX1_copy_25 rfl (lv_at hl 1 rfl) ?_
  refine va_get (D := D) (ci := 1) (v := .int qg) (C := RX1) (T := TX1) (N := 8) hx hb hts iX1 hown hK hP 1 rfl rfl 4 (by decide) (hts (.fieldLink RX1 21 "PunchedTicket$Moment" "gone" "I") (List.mem_of_getElem? (i := 4) rfl)) (fun _ h9 => h9) rfl dX1_copy_26 ?_
  refine va_put (D := D) (ci := 1) (v := .int qg) (ty := .int) (C := RX1) (T := TX1) (N := 8) hx hb hts iX1 tyX1 tyX1_ok nmX1 hown hK hP hD hS 0 rfl rfl 4 (by decide) (hts (.fieldLink RX1 21 "PunchedTicket$Moment" "gone" "I") (List.mem_of_getElem? (i := 4) rfl)) (fun _ h9 => h9) rfl (by decide +kernel) rfl rfl (Nat.le_of_ble_eq_true rfl) dX1_copy_29 (fun H locs hP hD hS => ?_)
  have hP : va_P D vwCl [(h0, .inr (1, [.ref ln, .int qd, .int qt, .int qr, .int qg, .ref mat, .ref mfd, .ref mhd])), (h1, .inr (1, [.ref ql, .int qd, .int qt, .int qr, .int qg, .ref qat, .ref qfd, .ref qhd])), (mat, .inl (cI, 5, .inl mFat)), (mfd, .inl (cI, 7, .inl mFfd)), (mhd, .inl (cI, 7, .inl mFhd)), (qat, .inl (cI, 5, .inl qFat)), (qfd, .inl (cI, 7, .inl qFfd)), (qhd, .inl (cI, 7, .inl qFhd))] H := hP
  have hD : va_D A [(h0, .inr (1, [.ref ln, .int qd, .int qt, .int qr, .int qg, .ref mat, .ref mfd, .ref mhd])), (h1, .inr (1, [.ref ql, .int qd, .int qt, .int qr, .int qg, .ref qat, .ref qfd, .ref qhd])), (mat, .inl (cI, 5, .inl mFat)), (mfd, .inl (cI, 7, .inl mFfd)), (mhd, .inl (cI, 7, .inl mFhd)), (qat, .inl (cI, 5, .inl qFat)), (qfd, .inl (cI, 7, .inl qFfd)), (qhd, .inl (cI, 7, .inl qFhd))] := hD
  refine lv_aload_n hx hb dX1_copy_32 rfl (lv_at hl 1 rfl) ?_
  refine va_get (D := D) (ci := 1) (v := .ref qat) (C := RX1) (T := TX1) (N := 8) hx hb hts iX1 hown hK hP 1 rfl rfl 5 (by decide) (hts (.fieldLink RX1 24 "PunchedTicket$Moment" "at" "[I") (List.mem_of_getElem? (i := 5) rfl)) (fun _ h9 => h9) rfl dX1_copy_33 ?_
  refine lv_iconst (v := 0) hx hb dX1_copy_36 (by decide) ?_
  refine lv_aload_n hx hb dX1_copy_37 rfl (lv_at hl 0 rfl) ?_
  refine va_get (D := D) (ci := 1) (v := .ref mat) (C := RX1) (T := TX1) (N := 8) hx hb hts iX1 hown hK hP 0 rfl rfl 5 (by decide) (hts (.fieldLink RX1 24 "PunchedTicket$Moment" "at" "[I") (List.mem_of_getElem? (i := 5) rfl)) (fun _ h9 => h9) rfl dX1_copy_38 ?_
  refine lv_iconst (v := 0) hx hb dX1_copy_41 (by decide) ?_
  refine lv_iconst (v := 5) hx hb dX1_copy_42 (by decide) ?_
  refine va_copyi (ty := .int) hx hb (hml.trans hl.1.symm) hown (hts (.methodLink RX1 44 arraycopyName) (List.mem_of_getElem? (i := 6) rfl)) (hts (.native arraycopyName) (List.mem_of_getElem? (i := 7) rfl)) (hts (.static arraycopyName) (List.mem_of_getElem? (i := 8) rfl)) (hts (.initialized "java/lang/System") (List.mem_of_getElem? (i := 9) rfl)) hK hP hD hS 5 2 0 0 rfl rfl rfl rfl rfl (by decide) (by decide) (by decide) (by decide) (by decide) (fun _ _ => rfl) (by rw [hR]; decide) (by rw [hR]; decide) dX1_copy_43 (fun H locs hP hD hS => ?_)
  obtain ⟨f_1, ef_1⟩ : ∃ z : Nat → Int32, va_cpy qFat mFat (0 : Int32).toNatClampNeg (0 : Int32).toNatClampNeg (5 : Int32).toNatClampNeg = z := ⟨_, rfl⟩
  rw [ef_1] at hP hD
  have hP : va_P D vwCl [(h0, .inr (1, [.ref ln, .int qd, .int qt, .int qr, .int qg, .ref mat, .ref mfd, .ref mhd])), (h1, .inr (1, [.ref ql, .int qd, .int qt, .int qr, .int qg, .ref qat, .ref qfd, .ref qhd])), (mat, .inl (cI, 5, .inl f_1)), (mfd, .inl (cI, 7, .inl mFfd)), (mhd, .inl (cI, 7, .inl mFhd)), (qat, .inl (cI, 5, .inl qFat)), (qfd, .inl (cI, 7, .inl qFfd)), (qhd, .inl (cI, 7, .inl qFhd))] H := hP
  have hD : va_D A [(h0, .inr (1, [.ref ln, .int qd, .int qt, .int qr, .int qg, .ref mat, .ref mfd, .ref mhd])), (h1, .inr (1, [.ref ql, .int qd, .int qt, .int qr, .int qg, .ref qat, .ref qfd, .ref qhd])), (mat, .inl (cI, 5, .inl f_1)), (mfd, .inl (cI, 7, .inl mFfd)), (mhd, .inl (cI, 7, .inl mFhd)), (qat, .inl (cI, 5, .inl qFat)), (qfd, .inl (cI, 7, .inl qFfd)), (qhd, .inl (cI, 7, .inl qFhd))] := hD
  refine lv_aload_n hx hb dX1_copy_46 rfl (lv_at hl 1 rfl) ?_
  refine va_get (D := D) (ci := 1) (v := .ref qfd) (C := RX1) (T := TX1) (N := 8) hx hb hts iX1 hown hK hP 1 rfl rfl 6 (by decide) (hts (.fieldLink RX1 28 "PunchedTicket$Moment" "forDay" "[I") (List.mem_of_getElem? (i := 10) rfl)) (fun _ h9 => h9) rfl dX1_copy_47 ?_
  refine lv_iconst (v := 0) hx hb dX1_copy_50 (by decide) ?_
  refine lv_aload_n hx hb dX1_copy_51 rfl (lv_at hl 0 rfl) ?_
  refine va_get (D := D) (ci := 1) (v := .ref mfd) (C := RX1) (T := TX1) (N := 8) hx hb hts iX1 hown hK hP 0 rfl rfl 6 (by decide) (hts (.fieldLink RX1 28 "PunchedTicket$Moment" "forDay" "[I") (List.mem_of_getElem? (i := 10) rfl)) (fun _ h9 => h9) rfl dX1_copy_52 ?_
  refine lv_iconst (v := 0) hx hb dX1_copy_55 (by decide) ?_
  refine lv_bipush (v := 6) hx hb dX1_copy_56 (by decide) ?_
  refine va_copyi (ty := .int) hx hb (hml.trans hl.1.symm) hown (hts (.methodLink RX1 44 arraycopyName) (List.mem_of_getElem? (i := 6) rfl)) (hts (.native arraycopyName) (List.mem_of_getElem? (i := 7) rfl)) (hts (.static arraycopyName) (List.mem_of_getElem? (i := 8) rfl)) (hts (.initialized "java/lang/System") (List.mem_of_getElem? (i := 9) rfl)) hK hP hD hS 6 3 0 0 rfl rfl rfl rfl rfl (by decide) (by decide) (by decide) (by decide) (by decide) (fun _ _ => rfl) (by rw [hR]; decide) (by rw [hR]; decide) dX1_copy_58 (fun H locs hP hD hS => ?_)
  obtain ⟨f_2, ef_2⟩ : ∃ z : Nat → Int32, va_cpy qFfd mFfd (0 : Int32).toNatClampNeg (0 : Int32).toNatClampNeg (6 : Int32).toNatClampNeg = z := ⟨_, rfl⟩
  rw [ef_2] at hP hD
  have hP : va_P D vwCl [(h0, .inr (1, [.ref ln, .int qd, .int qt, .int qr, .int qg, .ref mat, .ref mfd, .ref mhd])), (h1, .inr (1, [.ref ql, .int qd, .int qt, .int qr, .int qg, .ref qat, .ref qfd, .ref qhd])), (mat, .inl (cI, 5, .inl f_1)), (mfd, .inl (cI, 7, .inl f_2)), (mhd, .inl (cI, 7, .inl mFhd)), (qat, .inl (cI, 5, .inl qFat)), (qfd, .inl (cI, 7, .inl qFfd)), (qhd, .inl (cI, 7, .inl qFhd))] H := hP
  have hD : va_D A [(h0, .inr (1, [.ref ln, .int qd, .int qt, .int qr, .int qg, .ref mat, .ref mfd, .ref mhd])), (h1, .inr (1, [.ref ql, .int qd, .int qt, .int qr, .int qg, .ref qat, .ref qfd, .ref qhd])), (mat, .inl (cI, 5, .inl f_1)), (mfd, .inl (cI, 7, .inl f_2)), (mhd, .inl (cI, 7, .inl mFhd)), (qat, .inl (cI, 5, .inl qFat)), (qfd, .inl (cI, 7, .inl qFfd)), (qhd, .inl (cI, 7, .inl qFhd))] := hD
  refine lv_aload_n hx hb dX1_copy_61 rfl (lv_at hl 1 rfl) ?_
  refine va_get (D := D) (ci := 1) (v := .ref qhd) (C := RX1) (T := TX1) (N := 8) hx hb hts iX1 hown hK hP 1 rfl rfl 7 (by decide) (hts (.fieldLink RX1 31 "PunchedTicket$Moment" "holder" "[I") (List.mem_of_getElem? (i := 11) rfl)) (fun _ h9 => h9) rfl dX1_copy_62 ?_
  refine lv_iconst (v := 0) hx hb dX1_copy_65 (by decide) ?_
  refine lv_aload_n hx hb dX1_copy_66 rfl (lv_at hl 0 rfl) ?_
  refine va_get (D := D) (ci := 1) (v := .ref mhd) (C := RX1) (T := TX1) (N := 8) hx hb hts iX1 hown hK hP 0 rfl rfl 7 (by decide) (hts (.fieldLink RX1 31 "PunchedTicket$Moment" "holder" "[I") (List.mem_of_getElem? (i := 11) rfl)) (fun _ h9 => h9) rfl dX1_copy_67 ?_
  refine lv_iconst (v := 0) hx hb dX1_copy_70 (by decide) ?_
  refine lv_bipush (v := 6) hx hb dX1_copy_71 (by decide) ?_
  refine va_copyi (ty := .int) hx hb (hml.trans hl.1.symm) hown (hts (.methodLink RX1 44 arraycopyName) (List.mem_of_getElem? (i := 6) rfl)) (hts (.native arraycopyName) (List.mem_of_getElem? (i := 7) rfl)) (hts (.static arraycopyName) (List.mem_of_getElem? (i := 8) rfl)) (hts (.initialized "java/lang/System") (List.mem_of_getElem? (i := 9) rfl)) hK hP hD hS 7 4 0 0 rfl rfl rfl rfl rfl (by decide) (by decide) (by decide) (by decide) (by decide) (fun _ _ => rfl) (by rw [hR]; decide) (by rw [hR]; decide) dX1_copy_73 (fun H locs hP hD hS => ?_)
  obtain ⟨f_3, ef_3⟩ : ∃ z : Nat → Int32, va_cpy qFhd mFhd (0 : Int32).toNatClampNeg (0 : Int32).toNatClampNeg (6 : Int32).toNatClampNeg = z := ⟨_, rfl⟩
  rw [ef_3] at hP hD
  have hP : va_P D vwCl [(h0, .inr (1, [.ref ln, .int qd, .int qt, .int qr, .int qg, .ref mat, .ref mfd, .ref mhd])), (h1, .inr (1, [.ref ql, .int qd, .int qt, .int qr, .int qg, .ref qat, .ref qfd, .ref qhd])), (mat, .inl (cI, 5, .inl f_1)), (mfd, .inl (cI, 7, .inl f_2)), (mhd, .inl (cI, 7, .inl f_3)), (qat, .inl (cI, 5, .inl qFat)), (qfd, .inl (cI, 7, .inl qFfd)), (qhd, .inl (cI, 7, .inl qFhd))] H := hP
  have hD : va_D A [(h0, .inr (1, [.ref ln, .int qd, .int qt, .int qr, .int qg, .ref mat, .ref mfd, .ref mhd])), (h1, .inr (1, [.ref ql, .int qd, .int qt, .int qr, .int qg, .ref qat, .ref qfd, .ref qhd])), (mat, .inl (cI, 5, .inl f_1)), (mfd, .inl (cI, 7, .inl f_2)), (mhd, .inl (cI, 7, .inl f_3)), (qat, .inl (cI, 5, .inl qFat)), (qfd, .inl (cI, 7, .inl qFfd)), (qhd, .inl (cI, 7, .inl qFhd))] := hD
  exact ret_v (post := (fun (u : (Nat → Int32) × (Nat → Int32) × (Nat → Int32)) => True)) (W1 := (fun u => [(h0, .inr (1, [.ref ln, .int qd, .int qt, .int qr, .int qg, .ref mat, .ref mfd, .ref mhd])), (h1, .inr (1, [.ref ql, .int qd, .int qt, .int qr, .int qg, .ref qat, .ref qfd, .ref qhd])), (mat, .inl (cI, 5, .inl u.1)), (mfd, .inl (cI, 7, .inl u.2.1)), (mhd, .inl (cI, 7, .inl u.2.2)), (qat, .inl (cI, 5, .inl qFat)), (qfd, .inl (cI, 7, .inl qFfd)), (qhd, .inl (cI, 7, .inl qFhd))])) (f_1, f_2, f_3) hx hb hr hlocks hQ hK hP hD hS ⟨by decide, by decide⟩ dX1_copy_76 trivial
