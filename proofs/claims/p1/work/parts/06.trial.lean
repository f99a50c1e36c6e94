set_option maxRecDepth 20000 in
theorem ggX2_start_X1_copy : GoodIn wsX2_start wsX1_copy := goodIn_r _ [6, 7, 8, 9, 10, 11, 12, 13, 14, 15, 16, 17, 21, 22, 23, 24, 25, 26, 27, 28] (by decide +kernel) (by decide +kernel)
set_option maxRecDepth 20000 in
theorem gX2_start_X1_copy : GoodIn wsX2_start (wsV RX2 28 RX1 yX1_copy wsX1_copy) := goodIn_app (goodIn_of _ (by decide +kernel)) ggX2_start_X1_copy
theorem dX2_start_0 : decode cX2_start 0 = .ok (.aload_n 0, 1) := by decide +kernel
theorem dX2_start_1 : decode cX2_start 1 = .ok (.getfield 24, 3) := by decide +kernel
theorem dX2_start_4 : decode cX2_start 4 = .ok (.aload_n 1, 1) := by decide +kernel
theorem dX2_start_5 : decode cX2_start 5 = .ok (.invokevirtual 28, 3) := by decide +kernel
theorem dX2_start_8 : decode cX2_start 8 = .ok (.return_, 1) := by decide +kernel
set_option maxRecDepth 20000 in
theorem ggX2_passDaysTo_X1_passDay : GoodIn wsX2_passDaysTo wsX1_passDay := goodIn_r _ [8, 9, 10, 11, 12, 13, 14, 15, 7, 16, 17, 18, 19, 20, 21, 22, 23, 24, 25, 26, 27, 28, 29, 30, 31, 32, 33, 34, 35, 36, 37, 38, 39, 40, 41, 42, 43, 44, 45, 46, 47, 48, 49, 50, 54, 55, 56, 57, 58, 59, 60, 61, 62, 63, 64, 65, 66, 67, 68, 69, 70, 71] (by decide +kernel) (by decide +kernel)
set_option maxRecDepth 20000 in
theorem gX2_passDaysTo_X1_passDay : GoodIn wsX2_passDaysTo (wsV RX2 54 RX1 yX1_passDay wsX1_passDay) := goodIn_app (goodIn_of _ (by decide +kernel)) ggX2_passDaysTo_X1_passDay
theorem dX2_passDaysTo_0 : decode cX2_passDaysTo 0 = .ok (.aload_n 0, 1) := by decide +kernel
theorem dX2_passDaysTo_1 : decode cX2_passDaysTo 1 = .ok (.getfield 24, 3) := by decide +kernel
theorem dX2_passDaysTo_4 : decode cX2_passDaysTo 4 = .ok (.getfield 51, 3) := by decide +kernel
theorem dX2_passDaysTo_7 : decode cX2_passDaysTo 7 = .ok (.istore_n 2, 1) := by decide +kernel
theorem dX2_passDaysTo_8 : decode cX2_passDaysTo 8 = .ok (.iload_n 2, 1) := by decide +kernel
theorem dX2_passDaysTo_9 : decode cX2_passDaysTo 9 = .ok (.iload_n 1, 1) := by decide +kernel
theorem dX2_passDaysTo_10 : decode cX2_passDaysTo 10 = .ok (.if_icmp .ge 21, 3) := by decide +kernel
theorem dX2_passDaysTo_13 : decode cX2_passDaysTo 13 = .ok (.aload_n 0, 1) := by decide +kernel
theorem dX2_passDaysTo_14 : decode cX2_passDaysTo 14 = .ok (.getfield 24, 3) := by decide +kernel
theorem dX2_passDaysTo_17 : decode cX2_passDaysTo 17 = .ok (.aload_n 0, 1) := by decide +kernel
theorem dX2_passDaysTo_18 : decode cX2_passDaysTo 18 = .ok (.getfield 9, 3) := by decide +kernel
theorem dX2_passDaysTo_21 : decode cX2_passDaysTo 21 = .ok (.invokevirtual 54, 3) := by decide +kernel
theorem dX2_passDaysTo_24 : decode cX2_passDaysTo 24 = .ok (.pop, 1) := by decide +kernel
theorem dX2_passDaysTo_25 : decode cX2_passDaysTo 25 = .ok (.iinc 2 1, 3) := by decide +kernel
theorem dX2_passDaysTo_28 : decode cX2_passDaysTo 28 = .ok (.goto (-20), 3) := by decide +kernel
theorem dX2_passDaysTo_31 : decode cX2_passDaysTo 31 = .ok (.return_, 1) := by decide +kernel
set_option maxRecDepth 20000 in
theorem ggX2_gladAtEnd_X2_passDaysTo : GoodIn wsX2_gladAtEnd wsX2_passDaysTo := goodIn_r _ [6, 1, 7, 8, 9, 10, 11, 12, 13, 14, 15, 16, 17, 18, 19, 20, 21, 22, 23, 24, 25, 26, 27, 28, 29, 30, 31, 32, 33, 34, 35, 36, 37, 38, 39, 40, 41, 42, 43, 44, 45, 46, 47, 48, 49, 50, 51, 52, 53, 54, 55, 61, 62, 63, 64, 65, 66, 67, 68, 69, 70, 71, 72, 73, 74, 75, 76, 77, 78, 79, 80, 81] (by decide +kernel) (by decide +kernel)
set_option maxRecDepth 20000 in
theorem gX2_gladAtEnd_X2_passDaysTo : GoodIn wsX2_gladAtEnd (wsV RX2 64 RX2 yX2_passDaysTo wsX2_passDaysTo) := goodIn_app (goodIn_of _ (by decide +kernel)) ggX2_gladAtEnd_X2_passDaysTo
set_option maxRecDepth 20000 in
theorem ggX2_gladAtEnd_X1_gladNow : GoodIn wsX2_gladAtEnd wsX1_gladNow := goodIn_r _ [59, 14, 15, 16, 60, 64, 65, 66, 67, 68, 69, 70, 71, 72, 73, 74, 75, 76, 77, 78, 79, 80, 81] (by decide +kernel) (by decide +kernel)
set_option maxRecDepth 20000 in
theorem gX2_gladAtEnd_X1_gladNow : GoodIn wsX2_gladAtEnd (wsV RX2 68 RX1 yX1_gladNow wsX1_gladNow) := goodIn_app (goodIn_of _ (by decide +kernel)) ggX2_gladAtEnd_X1_gladNow
theorem dX2_gladAtEnd_0 : decode cX2_gladAtEnd 0 = .ok (.aload_n 0, 1) := by decide +kernel
theorem dX2_gladAtEnd_1 : decode cX2_gladAtEnd 1 = .ok (.bipush 10, 2) := by decide +kernel
theorem dX2_gladAtEnd_3 : decode cX2_gladAtEnd 3 = .ok (.invokevirtual 64, 3) := by decide +kernel
theorem dX2_gladAtEnd_6 : decode cX2_gladAtEnd 6 = .ok (.aload_n 0, 1) := by decide +kernel
theorem dX2_gladAtEnd_7 : decode cX2_gladAtEnd 7 = .ok (.getfield 24, 3) := by decide +kernel
theorem dX2_gladAtEnd_10 : decode cX2_gladAtEnd 10 = .ok (.invokevirtual 68, 3) := by decide +kernel
theorem dX2_gladAtEnd_13 : decode cX2_gladAtEnd 13 = .ok (.ireturn, 1) := by decide +kernel
set_option maxRecDepth 20000 in
theorem ggX2_firstDouble_X1_passDay : GoodIn wsX2_firstDouble wsX1_passDay := goodIn_r _ [8, 9, 10, 11, 12, 13, 14, 15, 7, 16, 17, 18, 19, 20, 21, 22, 23, 24, 25, 26, 27, 28, 29, 30, 31, 32, 33, 34, 35, 36, 37, 38, 39, 40, 41, 42, 43, 44, 45, 46, 47, 48, 49, 50, 88, 89, 90, 91, 92, 93, 94, 95, 96, 97, 98, 99, 100, 101, 102, 103, 104, 105] (by decide +kernel) (by decide +kernel)
set_option maxRecDepth 20000 in
theorem gX2_firstDouble_X1_passDay : GoodIn wsX2_firstDouble (wsV RX2 54 RX1 yX1_passDay wsX1_passDay) := goodIn_app (goodIn_of _ (by decide +kernel)) ggX2_firstDouble_X1_passDay
set_option maxRecDepth 20000 in
theorem ggX2_firstDouble_X2_barredSeats : GoodIn wsX2_firstDouble wsX2_barredSeats := goodIn_r _ [55, 56, 57, 3, 58, 59, 60, 54, 61, 1, 62, 63, 64, 65, 66, 67, 68, 69, 36, 37, 7, 38, 17, 70, 71, 72, 73, 74, 75, 76, 77, 78, 79, 80, 81, 82, 83, 84, 85, 86, 87, 96, 97, 98, 99, 100, 101, 102, 103, 104, 105, 88, 89, 90, 91, 92, 93, 94, 95] (by decide +kernel) (by decide +kernel)
set_option maxRecDepth 20000 in
theorem gX2_firstDouble_X2_barredSeats : GoodIn wsX2_firstDouble (wsV RX2 76 RX2 yX2_barredSeats wsX2_barredSeats) := goodIn_app (goodIn_of _ (by decide +kernel)) ggX2_firstDouble_X2_barredSeats
theorem dX2_firstDouble_0 : decode cX2_firstDouble 0 = .ok (.aload_n 0, 1) := by decide +kernel
theorem dX2_firstDouble_1 : decode cX2_firstDouble 1 = .ok (.getfield 24, 3) := by decide +kernel
theorem dX2_firstDouble_4 : decode cX2_firstDouble 4 = .ok (.getfield 51, 3) := by decide +kernel
theorem dX2_firstDouble_7 : decode cX2_firstDouble 7 = .ok (.istore_n 1, 1) := by decide +kernel
theorem dX2_firstDouble_8 : decode cX2_firstDouble 8 = .ok (.iload_n 1, 1) := by decide +kernel
theorem dX2_firstDouble_9 : decode cX2_firstDouble 9 = .ok (.bipush 10, 2) := by decide +kernel
theorem dX2_firstDouble_11 : decode cX2_firstDouble 11 = .ok (.if_icmp .ge 32, 3) := by decide +kernel
theorem dX2_firstDouble_14 : decode cX2_firstDouble 14 = .ok (.aload_n 0, 1) := by decide +kernel
theorem dX2_firstDouble_15 : decode cX2_firstDouble 15 = .ok (.getfield 24, 3) := by decide +kernel
theorem dX2_firstDouble_18 : decode cX2_firstDouble 18 = .ok (.aload_n 0, 1) := by decide +kernel
theorem dX2_firstDouble_19 : decode cX2_firstDouble 19 = .ok (.getfield 9, 3) := by decide +kernel
theorem dX2_firstDouble_22 : decode cX2_firstDouble 22 = .ok (.invokevirtual 54, 3) := by decide +kernel
theorem dX2_firstDouble_25 : decode cX2_firstDouble 25 = .ok (.pop, 1) := by decide +kernel
theorem dX2_firstDouble_26 : decode cX2_firstDouble 26 = .ok (.aload_n 0, 1) := by decide +kernel
theorem dX2_firstDouble_27 : decode cX2_firstDouble 27 = .ok (.bipush (-9), 2) := by decide +kernel
theorem dX2_firstDouble_29 : decode cX2_firstDouble 29 = .ok (.invokevirtual 76, 3) := by decide +kernel
theorem dX2_firstDouble_32 : decode cX2_firstDouble 32 = .ok (.ifCond .eq 5, 3) := by decide +kernel
theorem dX2_firstDouble_37 : decode cX2_firstDouble 37 = .ok (.iinc 1 1, 3) := by decide +kernel
theorem dX2_firstDouble_40 : decode cX2_firstDouble 40 = .ok (.goto (-32), 3) := by decide +kernel
theorem dX2_firstDouble_43 : decode cX2_firstDouble 43 = .ok (.bipush (-9), 2) := by decide +kernel
theorem dX2_firstDouble_45 : decode cX2_firstDouble 45 = .ok (.ireturn, 1) := by decide +kernel
theorem dX2_barredSeats_0 : decode cX2_barredSeats 0 = .ok (.iconst 0, 1) := by decide +kernel
theorem dX2_barredSeats_1 : decode cX2_barredSeats 1 = .ok (.istore_n 2, 1) := by decide +kernel
theorem dX2_barredSeats_2 : decode cX2_barredSeats 2 = .ok (.iconst 0, 1) := by decide +kernel
theorem dX2_barredSeats_3 : decode cX2_barredSeats 3 = .ok (.istore_n 3, 1) := by decide +kernel
theorem dX2_barredSeats_4 : decode cX2_barredSeats 4 = .ok (.iload_n 3, 1) := by decide +kernel
theorem dX2_barredSeats_5 : decode cX2_barredSeats 5 = .ok (.aload_n 0, 1) := by decide +kernel
theorem dX2_barredSeats_6 : decode cX2_barredSeats 6 = .ok (.getfield 15, 3) := by decide +kernel
theorem dX2_barredSeats_9 : decode cX2_barredSeats 9 = .ok (.getfield 98, 3) := by decide +kernel
theorem dX2_barredSeats_12 : decode cX2_barredSeats 12 = .ok (.if_icmp .ge 63, 3) := by decide +kernel
theorem dX2_barredSeats_75 : decode cX2_barredSeats 75 = .ok (.iload_n 2, 1) := by decide +kernel
theorem dX2_barredSeats_76 : decode cX2_barredSeats 76 = .ok (.ireturn, 1) := by decide +kernel
set_option maxHeartbeats 600000 in
set_option maxRecDepth 100000 in
theorem c_X2_start (l : Launch) (D : va_G) (cI cZ cM : ClassId) (h0 : Nat) (h1 : Nat) (tl : Nat) (mo : Nat) (rd : Nat) (ln : Nat) (md : Int32) (mt : Int32) (mr : Int32) (mg : Int32) (mat : Nat) (mfd : Nat) (mhd : Nat) (ql : Nat) (qd : Int32) (qt : Int32) (qr : Int32) (qg : Int32) (qat : Nat) (qfd : Nat) (qhd : Nat) (mFat : Nat → Int32) (mFfd : Nat → Int32) (mFhd : Nat → Int32) (qFat : Nat → Int32) (qFfd : Nat → Int32) (qFhd : Nat → Int32) (sz : Nat)  : Cv l yX2_start wsX2_start ({ frames := 2, cells := 0, slots := 0, locals := 47 } : Room) D cI cZ cM [.ref h0, .ref h1] [(h0, .inr (2, [.ref tl, .ref mo, .ref rd])), (mo, .inr (1, [.ref ln, .int md, .int mt, .int mr, .int mg, .ref mat, .ref mfd, .ref mhd])), (h1, .inr (1, [.ref ql, .int qd, .int qt, .int qr, .int qg, .ref qat, .ref qfd, .ref qhd])), (mat, .inl (cI, 5, .inl mFat)), (mfd, .inl (cI, 7, .inl mFfd)), (mhd, .inl (cI, 7, .inl mFhd)), (qat, .inl (cI, 5, .inl qFat)), (qfd, .inl (cI, 7, .inl qFfd)), (qhd, .inl (cI, 7, .inl qFhd))] sz (fun (u : (Nat → Int32) × (Nat → Int32) × (Nat → Int32)) => True) (fun u => [(h0, .inr (2, [.ref tl, .ref mo, .ref rd])), (mo, .inr (1, [.ref ln, .int qd, .int qt, .int qr, .int qg, .ref mat, .ref mfd, .ref mhd])), (h1, .inr (1, [.ref ql, .int qd, .int qt, .int qr, .int qg, .ref qat, .ref qfd, .ref qhd])), (mat, .inl (cI, 5, .inl u.1)), (mfd, .inl (cI, 7, .inl u.2.1)), (mhd, .inl (cI, 7, .inl u.2.2)), (qat, .inl (cI, 5, .inl qFat)), (qfd, .inl (cI, 7, .inl qFfd)), (qhd, .inl (cI, 7, .inl qFhd))]) 0 0 := by
  refine begins (l := l) (y := yX2_start) (ws := wsX2_start) (av := [.ref h0, .ref h1]) (Qc := fun A => va_Qv (fun (u : (Nat → Int32) × (Nat → Int32) × (Nat → Int32)) => True) (fun u => Wd D cI cZ cM A ((fun u => [(h0, .inr (2, [.ref tl, .ref mo, .ref rd])), (mo, .inr (1, [.ref ln, .int qd, .int qt, .int qr, .int qg, .ref mat, .ref mfd, .ref mhd])), (h1, .inr (1, [.ref ql, .int qd, .int qt, .int qr, .int qg, .ref qat, .ref qfd, .ref qhd])), (mat, .inl (cI, 5, .inl u.1)), (mfd, .inl (cI, 7, .inl u.2.1)), (mhd, .inl (cI, 7, .inl u.2.2)), (qat, .inl (cI, 5, .inl qFat)), (qfd, .inl (cI, 7, .inl qFfd)), (qhd, .inl (cI, 7, .inl qFhd))]) u)) A) cX2_start 2 none (by decide) rfl (Nat.le_of_ble_eq_true rfl) ?_
  intro p e s m args below meth c R Q A ls hBd hR hQ hA hS hK hP hD hl
  obtain ⟨hx, hb, hr, hts, hown, hlocks, hin, hml⟩ := hBd
  have hl : lv_has ls 2 [(0, .ref h0), (1, .ref h1)] := hl
  have iX2 : ∀ w ∈ wsX20, w ∈ wsX2_start := fun _ h => List.mem_cons_of_mem _ (List.mem_append_left _ (List.mem_append_right _ h))
  have iX1 : ∀ w ∈ wsX10, w ∈ wsX2_start := fun _ h => List.mem_cons_of_mem _ (List.mem_append_right _ h)
  refine lv_aload_n hx hb dX2_start_0 rfl (lv_at hl 0 rfl) ?_
  refine va_get (D := D) (ci := 2) (v := .ref mo) (C := RX2) (T := TX2) (N := 3) hx hb hts iX2 hown hK hP 0 rfl rfl 1 (by decide) (hts (.fieldLink RX2 24 "PunchedTicket$Trial" "moment" "LPunchedTicket$Moment;") (List.mem_of_getElem? (i := 1) rfl)) (fun _ h9 => h9) rfl dX2_start_1 ?_
  refine lv_aload_n hx hb dX2_start_4 rfl (lv_at hl 1 rfl) ?_
  refine cV_v (As := [.ref h1]) (rest := []) ⟨hx, hb, hml, hown, hts⟩ (c_X1_copy l D cI cZ cM mo h1 ln md mt mr mg mat mfd mhd ql qd qt qr qg qat qfd qhd mFat mFfd mFhd qFat qFfd qFhd _ ) (cwV 1 hts gX2_start_X1_copy rfl rfl rfl (by decide +kernel) ⟨by rw [hR]; decide, by rw [hR]; decide⟩) hK hP hD hS hA [1, 2, 3, 4, 5, 6, 7, 8] [0] rfl rfl (by decide) (by decide) (by decide) rfl 1 rfl hl.1 rfl rfl (Nat.le_of_ble_eq_true rfl) dX2_start_5 ⟨by rw [hR]; decide, by rw [hR]; decide⟩ (fun u_5 H locs hw hP hD hS => ?_)
  obtain ⟨Gat_1, Gfd_2, Ghd_3⟩ := u_5
  have hP : va_P D vwCl [(h0, .inr (2, [.ref tl, .ref mo, .ref rd])), (mo, .inr (1, [.ref ln, .int qd, .int qt, .int qr, .int qg, .ref mat, .ref mfd, .ref mhd])), (h1, .inr (1, [.ref ql, .int qd, .int qt, .int qr, .int qg, .ref qat, .ref qfd, .ref qhd])), (mat, .inl (cI, 5, .inl Gat_1)), (mfd, .inl (cI, 7, .inl Gfd_2)), (mhd, .inl (cI, 7, .inl Ghd_3)), (qat, .inl (cI, 5, .inl qFat)), (qfd, .inl (cI, 7, .inl qFfd)), (qhd, .inl (cI, 7, .inl qFhd))] H := hP.sub [0, 1, 2, 3, 4, 5, 6, 7, 8] rfl
  have hD : va_D A [(h0, .inr (2, [.ref tl, .ref mo, .ref rd])), (mo, .inr (1, [.ref ln, .int qd, .int qt, .int qr, .int qg, .ref mat, .ref mfd, .ref mhd])), (h1, .inr (1, [.ref ql, .int qd, .int qt, .int qr, .int qg, .ref qat, .ref qfd, .ref qhd])), (mat, .inl (cI, 5, .inl Gat_1)), (mfd, .inl (cI, 7, .inl Gfd_2)), (mhd, .inl (cI, 7, .inl Ghd_3)), (qat, .inl (cI, 5, .inl qFat)), (qfd, .inl (cI, 7, .inl qFfd)), (qhd, .inl (cI, 7, .inl qFhd))] := hD.sub [0, 1, 2, 3, 4, 5, 6, 7, 8] (by decide) rfl
  refine W.widen (k := 0) (n := 0) (Nat.le_refl _) (Nat.le_refl _) ?_
  exact ret_v (post := (fun (u : (Nat → Int32) × (Nat → Int32) × (Nat → Int32)) => True)) (W1 := (fun u => [(h0, .inr (2, [.ref tl, .ref mo, .ref rd])), (mo, .inr (1, [.ref ln, .int qd, .int qt, .int qr, .int qg, .ref mat, .ref mfd, .ref mhd])), (h1, .inr (1, [.ref ql, .int qd, .int qt, .int qr, .int qg, .ref qat, .ref qfd, .ref qhd])), (mat, .inl (cI, 5, .inl u.1)), (mfd, .inl (cI, 7, .inl u.2.1)), (mhd, .inl (cI, 7, .inl u.2.2)), (qat, .inl (cI, 5, .inl qFat)), (qfd, .inl (cI, 7, .inl qFfd)), (qhd, .inl (cI, 7, .inl qFhd))])) (Gat_1, Gfd_2, Ghd_3) hx hb hr hlocks hQ hK hP hD hS ⟨by decide, by decide⟩ dX2_start_8 trivial

set_option maxHeartbeats 600000 in
set_option maxRecDepth 100000 in
theorem c_X2_passDaysTo (l : Launch) (D : va_G) (cI cZ cM : ClassId) (h0 : Nat) (n : Int32) (tl : Nat) (mo : Nat) (rd : Nat) (ln : Nat) (md : Int32) (mt : Int32) (mr : Int32) (mg : Int32) (mat : Nat) (mfd : Nat) (mhd : Nat) (lpe : Int32) (ltk : Int32) (lho : Nat) (lli : Nat) (lki : Nat) (lfd : Nat) (lfr : Nat) (lto : Nat) (lse : Nat) (lhl : Nat) (lFto : Nat → Int32) (lFfr : Nat → Int32) (lFki : Nat → Int32) (mFat : Nat → Int32) (mFfd : Nat → Int32) (mFhd : Nat → Int32) (Frd : Nat → Int32) (sz : Nat) (h_mt : 0 ≤ mt.toInt ∧ mt.toInt ≤ 7) (h_lpe : 0 ≤ lpe.toInt ∧ lpe.toInt ≤ 5) (h_md : 0 ≤ md.toInt ∧ md.toInt ≤ 10) (h_n : 0 ≤ n.toInt ∧ n.toInt ≤ 10) : Cv l yX2_passDaysTo wsX2_passDaysTo ({ frames := 3, cells := 0, slots := 0, locals := 71 } : Room) D cI cZ cM [.ref h0, .int n] [(h0, .inr (2, [.ref tl, .ref mo, .ref rd])), (mo, .inr (1, [.ref ln, .int md, .int mt, .int mr, .int mg, .ref mat, .ref mfd, .ref mhd])), (ln, .inr (0, [.int lpe, .int ltk, .ref lho, .ref lli, .ref lki, .ref lfd, .ref lfr, .ref lto, .ref lse, .ref lhl])), (lto, .inl (cI, 7, .inl lFto)), (lfr, .inl (cI, 7, .inl lFfr)), (lki, .inl (cI, 5, .inl lFki)), (mat, .inl (cI, 5, .inl mFat)), (mfd, .inl (cI, 7, .inl mFfd)), (mhd, .inl (cI, 7, .inl mFhd)), (rd, .inl (cI, 5, .inl Frd))] sz (fun (u : Int32 × Int32 × Int32 × (Nat → Int32) × (Nat → Int32) × (Nat → Int32) × (Nat → Int32)) => md.toInt ≤ n.toInt → u.1.toInt = n.toInt) (fun u => [(h0, .inr (2, [.ref tl, .ref mo, .ref rd])), (mo, .inr (1, [.ref ln, .int u.1, .int mt, .int u.2.1, .int u.2.2.1, .ref mat, .ref mfd, .ref mhd])), (ln, .inr (0, [.int lpe, .int ltk, .ref lho, .ref lli, .ref lki, .ref lfd, .ref lfr, .ref lto, .ref lse, .ref lhl])), (lto, .inl (cI, 7, .inl lFto)), (lfr, .inl (cI, 7, .inl lFfr)), (lki, .inl (cI, 5, .inl lFki)), (mat, .inl (cI, 5, .inl u.2.2.2.1)), (mfd, .inl (cI, 7, .inl u.2.2.2.2.1)), (mhd, .inl (cI, 7, .inl u.2.2.2.2.2.1)), (rd, .inl (cI, 5, .inl u.2.2.2.2.2.2))]) 0 0 := by
  refine begins (l := l) (y := yX2_passDaysTo) (ws := wsX2_passDaysTo) (av := [.ref h0, .int n]) (Qc := fun A => va_Qv (fun (u : Int32 × Int32 × Int32 × (Nat → Int32) × (Nat → Int32) × (Nat → Int32) × (Nat → Int32)) => md.toInt ≤ n.toInt → u.1.toInt = n.toInt) (fun u => Wd D cI cZ cM A ((fun u => [(h0, .inr (2, [.ref tl, .ref mo, .ref rd])), (mo, .inr (1, [.ref ln, .int u.1, .int mt, .int u.2.1, .int u.2.2.1, .ref mat, .ref mfd, .ref mhd])), (ln, .inr (0, [.int lpe, .int ltk, .ref lho, .ref lli, .ref lki, .ref lfd, .ref lfr, .ref lto, .ref lse, .ref lhl])), (lto, .inl (cI, 7, .inl lFto)), (lfr, .inl (cI, 7, .inl lFfr)), (lki, .inl (cI, 5, .inl lFki)), (mat, .inl (cI, 5, .inl u.2.2.2.1)), (mfd, .inl (cI, 7, .inl u.2.2.2.2.1)), (mhd, .inl (cI, 7, .inl u.2.2.2.2.2.1)), (rd, .inl (cI, 5, .inl u.2.2.2.2.2.2))]) u)) A) cX2_passDaysTo 3 none (by decide) rfl (Nat.le_of_ble_eq_true rfl) ?_
  intro p e s m args below meth c R Q A ls hBd hR hQ hA hS hK hP hD hl
  obtain ⟨hx, hb, hr, hts, hown, hlocks, hin, hml⟩ := hBd
  have hl : lv_has ls 3 [(0, .ref h0), (1, .int n)] := hl
  have iX2 : ∀ w ∈ wsX20, w ∈ wsX2_passDaysTo := fun _ h => List.mem_cons_of_mem _ (List.mem_append_left _ (List.mem_append_left _ (List.mem_append_right _ h)))
  have iX1 : ∀ w ∈ wsX10, w ∈ wsX2_passDaysTo := fun _ h => List.mem_cons_of_mem _ (List.mem_append_left _ (List.mem_append_right _ h))
  have iX0 : ∀ w ∈ wsX00, w ∈ wsX2_passDaysTo := fun _ h => List.mem_cons_of_mem _ (List.mem_append_right _ h)
  obtain ⟨h_mta, h_mtb⟩ := h_mt
  obtain ⟨h_lpea, h_lpeb⟩ := h_lpe
  obtain ⟨h_mda, h_mdb⟩ := h_md
  obtain ⟨h_na, h_nb⟩ := h_n
  refine lv_aload_n hx hb dX2_passDaysTo_0 rfl (lv_at hl 0 rfl) ?_
  refine va_get (D := D) (ci := 2) (v := .ref mo) (C := RX2) (T := TX2) (N := 3) hx hb hts iX2 hown hK hP 0 rfl rfl 1 (by decide) (hts (.fieldLink RX2 24 "PunchedTicket$Trial" "moment" "LPunchedTicket$Moment;") (List.mem_of_getElem? (i := 1) rfl)) (fun _ h9 => h9) rfl dX2_passDaysTo_1 ?_
  refine va_get (D := D) (ci := 1) (v := .int md) (C := RX1) (T := TX1) (N := 8) hx hb hts iX1 hown hK hP 1 rfl rfl 1 (by decide) (hts (.fieldLink RX2 51 "PunchedTicket$Moment" "day" "I") (List.mem_of_getElem? (i := 2) rfl)) (fun _ h9 => h9) rfl dX2_passDaysTo_4 ?_
  refine lv_istore_n (lv' := [(2, .int md), (0, .ref h0), (1, .int n)]) hx hb dX2_passDaysTo_7 rfl hl (by decide) rfl (fun ls hl => ?_)
  have LOOP_1 : ∀ (fu : Nat) (x2 : Int32) (nd : Int32) (nr : Int32) (ng : Int32) (nat : Nat → Int32) (nfd : Nat → Int32) (nhd : Nat → Int32) (nrd : Nat → Int32) (H : Heap) (locs : List Loc) (ls : Array Slot), (10 - x2.toInt).toNat < fu → (0 ≤ x2.toInt ∧ x2.toInt ≤ 10) → (0 ≤ nd.toInt ∧ nd.toInt ≤ 10) → (x2.toInt = nd.toInt) → (md.toInt ≤ n.toInt → nd.toInt ≤ n.toInt) → (md.toInt ≤ nd.toInt) → va_P D vwCl [(h0, .inr (2, [.ref tl, .ref mo, .ref rd])), (mo, .inr (1, [.ref ln, .int nd, .int mt, .int nr, .int ng, .ref mat, .ref mfd, .ref mhd])), (ln, .inr (0, [.int lpe, .int ltk, .ref lho, .ref lli, .ref lki, .ref lfd, .ref lfr, .ref lto, .ref lse, .ref lhl])), (lto, .inl (cI, 7, .inl lFto)), (lfr, .inl (cI, 7, .inl lFfr)), (lki, .inl (cI, 5, .inl lFki)), (mat, .inl (cI, 5, .inl nat)), (mfd, .inl (cI, 7, .inl nfd)), (mhd, .inl (cI, 7, .inl nhd)), (rd, .inl (cI, 5, .inl nrd))] H → va_D A [(h0, .inr (2, [.ref tl, .ref mo, .ref rd])), (mo, .inr (1, [.ref ln, .int nd, .int mt, .int nr, .int ng, .ref mat, .ref mfd, .ref mhd])), (ln, .inr (0, [.int lpe, .int ltk, .ref lho, .ref lli, .ref lki, .ref lfd, .ref lfr, .ref lto, .ref lse, .ref lhl])), (lto, .inl (cI, 7, .inl lFto)), (lfr, .inl (cI, 7, .inl lFfr)), (lki, .inl (cI, 5, .inl lFki)), (mat, .inl (cI, 5, .inl nat)), (mfd, .inl (cI, 7, .inl nfd)), (mhd, .inl (cI, 7, .inl nhd)), (rd, .inl (cI, 5, .inl nrd))] → va_S A s.heap H locs → lv_has ls 3 [(0, .ref h0), (1, .int n), (2, .int x2)] → W p l e R s m args below meth c H locs 0 0 Q (F0 m 8 ls []) := by
    intro fu
    induction fu with
    | zero => intro x2 nd nr ng nat nfd nhd nrd H locs ls hmu; exact absurd hmu (Nat.not_lt_zero _)
    | succ fu ih =>
      intro x2 nd nr ng nat nfd nhd nrd H locs ls hmu h_x2 h_nd hxd hxn hxm hP hD hS hl
      obtain ⟨h_x2a, h_x2b⟩ := h_x2
      obtain ⟨h_nda, h_ndb⟩ := h_nd
      have ih_2 := ih
      clear ih
      refine lv_iload_n hx hb dX2_passDaysTo_8 rfl (lv_at hl 2 rfl) ?_
      refine lv_iload_n hx hb dX2_passDaysTo_9 rfl (lv_at hl 1 rfl) ?_
      refine lv_icmp_ge (tgt := 31) hx hb dX2_passDaysTo_10 (by decide) (fun c_3 => ?_) (fun c_3 => ?_)
      · have tc_3 := b_le rfl rfl c_3
        exact ret_v (post := (fun (u : Int32 × Int32 × Int32 × (Nat → Int32) × (Nat → Int32) × (Nat → Int32) × (Nat → Int32)) => md.toInt ≤ n.toInt → u.1.toInt = n.toInt)) (W1 := (fun u => [(h0, .inr (2, [.ref tl, .ref mo, .ref rd])), (mo, .inr (1, [.ref ln, .int u.1, .int mt, .int u.2.1, .int u.2.2.1, .ref mat, .ref mfd, .ref mhd])), (ln, .inr (0, [.int lpe, .int ltk, .ref lho, .ref lli, .ref lki, .ref lfd, .ref lfr, .ref lto, .ref lse, .ref lhl])), (lto, .inl (cI, 7, .inl lFto)), (lfr, .inl (cI, 7, .inl lFfr)), (lki, .inl (cI, 5, .inl lFki)), (mat, .inl (cI, 5, .inl u.2.2.2.1)), (mfd, .inl (cI, 7, .inl u.2.2.2.2.1)), (mhd, .inl (cI, 7, .inl u.2.2.2.2.2.1)), (rd, .inl (cI, 5, .inl u.2.2.2.2.2.2))])) (nd, nr, ng, nat, nfd, nhd, nrd) hx hb hr hlocks hQ hK hP hD hS ⟨by decide, by decide⟩ dX2_passDaysTo_31 (show md.toInt ≤ n.toInt → nd.toInt = n.toInt by omega)
      · have tc_3 := b_nle rfl rfl c_3
        refine lv_aload_n hx hb dX2_passDaysTo_13 rfl (lv_at hl 0 rfl) ?_
        refine va_get (D := D) (ci := 2) (v := .ref mo) (C := RX2) (T := TX2) (N := 3) hx hb hts iX2 hown hK hP 0 rfl rfl 1 (by decide) (hts (.fieldLink RX2 24 "PunchedTicket$Trial" "moment" "LPunchedTicket$Moment;") (List.mem_of_getElem? (i := 1) rfl)) (fun _ h9 => h9) rfl dX2_passDaysTo_14 ?_
        refine lv_aload_n hx hb dX2_passDaysTo_17 rfl (lv_at hl 0 rfl) ?_
        refine va_get (D := D) (ci := 2) (v := .ref rd) (C := RX2) (T := TX2) (N := 3) hx hb hts iX2 hown hK hP 0 rfl rfl 2 (by decide) (hts (.fieldLink RX2 9 "PunchedTicket$Trial" "rides" "[I") (List.mem_of_getElem? (i := 3) rfl)) (fun _ h9 => h9) rfl dX2_passDaysTo_18 ?_
        refine cV_i (As := [.ref rd]) (rest := []) ⟨hx, hb, hml, hown, hts⟩ (c_X1_passDay l D cI cZ cM mo rd ln nd mt nr ng mat mfd mhd lpe ltk lho lli lki lfd lfr lto lse lhl lFto lFfr lFki nat nfd nhd nrd _ (show 0 ≤ mt.toInt ∧ mt.toInt ≤ 7 by omega) (show 0 ≤ lpe.toInt ∧ lpe.toInt ≤ 5 by omega) (show 0 ≤ nd.toInt ∧ nd.toInt ≤ 9 by omega)) (cwV 1 hts gX2_passDaysTo_X1_passDay rfl rfl rfl (by decide +kernel) ⟨by rw [hR]; decide, by rw [hR]; decide⟩) hK hP hD hS hA [1, 2, 3, 4, 5, 6, 7, 8, 9] [0] rfl rfl (by decide) (by decide) (by decide) rfl 1 rfl hl.1 rfl rfl (Nat.le_of_ble_eq_true rfl) dX2_passDaysTo_21 ⟨by rw [hR]; decide, by rw [hR]; decide⟩ (fun r_11 u_12 H locs hw hP hD hS => ?_)
        obtain ⟨md1_4, mr1_5, mg1_6, Gat_7, Gfd_8, Ghd_9, Grd_10⟩ := u_12
        have hP : va_P D vwCl [(h0, .inr (2, [.ref tl, .ref mo, .ref rd])), (mo, .inr (1, [.ref ln, .int md1_4, .int mt, .int mr1_5, .int mg1_6, .ref mat, .ref mfd, .ref mhd])), (ln, .inr (0, [.int lpe, .int ltk, .ref lho, .ref lli, .ref lki, .ref lfd, .ref lfr, .ref lto, .ref lse, .ref lhl])), (lto, .inl (cI, 7, .inl lFto)), (lfr, .inl (cI, 7, .inl lFfr)), (lki, .inl (cI, 5, .inl lFki)), (mat, .inl (cI, 5, .inl Gat_7)), (mfd, .inl (cI, 7, .inl Gfd_8)), (mhd, .inl (cI, 7, .inl Ghd_9)), (rd, .inl (cI, 5, .inl Grd_10))] H := hP.sub [0, 1, 2, 3, 4, 5, 6, 7, 8, 9] rfl
        have hD : va_D A [(h0, .inr (2, [.ref tl, .ref mo, .ref rd])), (mo, .inr (1, [.ref ln, .int md1_4, .int mt, .int mr1_5, .int mg1_6, .ref mat, .ref mfd, .ref mhd])), (ln, .inr (0, [.int lpe, .int ltk, .ref lho, .ref lli, .ref lki, .ref lfd, .ref lfr, .ref lto, .ref lse, .ref lhl])), (lto, .inl (cI, 7, .inl lFto)), (lfr, .inl (cI, 7, .inl lFfr)), (lki, .inl (cI, 5, .inl lFki)), (mat, .inl (cI, 5, .inl Gat_7)), (mfd, .inl (cI, 7, .inl Gfd_8)), (mhd, .inl (cI, 7, .inl Ghd_9)), (rd, .inl (cI, 5, .inl Grd_10))] := hD.sub [0, 1, 2, 3, 4, 5, 6, 7, 8, 9] (by decide) rfl
        refine W.widen (k := 0) (n := 0) (Nat.le_refl _) (Nat.le_refl _) ?_
        have hw : md1_4.toInt = nd.toInt + 1 ∧ (lpe.toInt = 0 → r_11.toInt = 0) := hw
        have hw_13 := hw
        refine lv_pop hx hb dX2_passDaysTo_24 rfl ?_
        obtain ⟨v_14, ev_14⟩ : ∃ z : Int32, z = x2 + 1 := ⟨_, rfl⟩
        have tv_14 : v_14.toInt = x2.toInt + 1 := by rw [ev_14]; exact ti_add (x := x2) (y := 1) (show -2147483648 ≤ x2.toInt + 1 by omega) (show x2.toInt + 1 < 2147483648 by omega)
        refine lv_iinc (v := v_14) (lv' := [(2, .int v_14), (0, .ref h0), (1, .int n)]) hx hb dX2_passDaysTo_25 hl (k := 2) rfl (by rw [ev_14]; rfl) (by decide) rfl (fun ls hl => ?_)
        refine lv_goto (tgt := 8) hx hb dX2_passDaysTo_28 (by decide) ?_
        exact ih_2 v_14 md1_4 mr1_5 mg1_6 Gat_7 Gfd_8 Ghd_9 Grd_10 _ _ _ (show (10 - v_14.toInt).toNat < fu by omega) (show 0 ≤ v_14.toInt ∧ v_14.toInt ≤ 10 by omega) (show 0 ≤ md1_4.toInt ∧ md1_4.toInt ≤ 10 by omega) (show v_14.toInt = md1_4.toInt by omega) (show md.toInt ≤ n.toInt → md1_4.toInt ≤ n.toInt by omega) (show md.toInt ≤ md1_4.toInt by omega) hP hD hS (lv_sub hl [1, 2, 0] rfl)
  exact LOOP_1 _ md md mr mg mFat mFfd mFhd Frd _ _ _ (Nat.lt_succ_self _) (show 0 ≤ md.toInt ∧ md.toInt ≤ 10 by omega) (show 0 ≤ md.toInt ∧ md.toInt ≤ 10 by omega) (show md.toInt = md.toInt by omega) (show md.toInt ≤ n.toInt → md.toInt ≤ n.toInt by omega) (show md.toInt ≤ md.toInt by omega) hP hD hS (lv_sub hl [1, 2, 0] rfl)

set_option maxHeartbeats 600000 in
set_option maxRecDepth 100000 in
theorem c_X2_gladAtEnd (l : Launch) (D : va_G) (cI cZ cM : ClassId) (h0 : Nat) (tl : Nat) (mo : Nat) (rd : Nat) (ln : Nat) (md : Int32) (mt : Int32) (mr : Int32) (mg : Int32) (mat : Nat) (mfd : Nat) (mhd : Nat) (lpe : Int32) (ltk : Int32) (lho : Nat) (lli : Nat) (lki : Nat) (lfd : Nat) (lfr : Nat) (lto : Nat) (lse : Nat) (lhl : Nat) (lFto : Nat → Int32) (lFfr : Nat → Int32) (lFki : Nat → Int32) (lFli : Nat → Int32) (mFat : Nat → Int32) (mFfd : Nat → Int32) (mFhd : Nat → Int32) (Frd : Nat → Int32) (sz : Nat) (h_mt : 0 ≤ mt.toInt ∧ mt.toInt ≤ 7) (h_lpe : 0 ≤ lpe.toInt ∧ lpe.toInt ≤ 5) (h_md : 0 ≤ md.toInt ∧ md.toInt ≤ 10) : Ci l yX2_gladAtEnd wsX2_gladAtEnd ({ frames := 4, cells := 0, slots := 0, locals := 93 } : Room) D cI cZ cM [.ref h0] [(h0, .inr (2, [.ref tl, .ref mo, .ref rd])), (mo, .inr (1, [.ref ln, .int md, .int mt, .int mr, .int mg, .ref mat, .ref mfd, .ref mhd])), (ln, .inr (0, [.int lpe, .int ltk, .ref lho, .ref lli, .ref lki, .ref lfd, .ref lfr, .ref lto, .ref lse, .ref lhl])), (lto, .inl (cI, 7, .inl lFto)), (lfr, .inl (cI, 7, .inl lFfr)), (lki, .inl (cI, 5, .inl lFki)), (lli, .inl (cI, 5, .inl lFli)), (mat, .inl (cI, 5, .inl mFat)), (mfd, .inl (cI, 7, .inl mFfd)), (mhd, .inl (cI, 7, .inl mFhd)), (rd, .inl (cI, 5, .inl Frd))] sz (fun (r : Int32) (u : Int32 × Int32 × Int32 × (Nat → Int32) × (Nat → Int32) × (Nat → Int32) × (Nat → Int32)) => 0 ≤ r.toInt ∧ r.toInt ≤ lpe.toInt) (fun u => [(h0, .inr (2, [.ref tl, .ref mo, .ref rd])), (mo, .inr (1, [.ref ln, .int u.1, .int mt, .int u.2.1, .int u.2.2.1, .ref mat, .ref mfd, .ref mhd])), (ln, .inr (0, [.int lpe, .int ltk, .ref lho, .ref lli, .ref lki, .ref lfd, .ref lfr, .ref lto, .ref lse, .ref lhl])), (lto, .inl (cI, 7, .inl lFto)), (lfr, .inl (cI, 7, .inl lFfr)), (lki, .inl (cI, 5, .inl lFki)), (lli, .inl (cI, 5, .inl lFli)), (mat, .inl (cI, 5, .inl u.2.2.2.1)), (mfd, .inl (cI, 7, .inl u.2.2.2.2.1)), (mhd, .inl (cI, 7, .inl u.2.2.2.2.2.1)), (rd, .inl (cI, 5, .inl u.2.2.2.2.2.2))]) 0 0 := by
  refine begins (l := l) (y := yX2_gladAtEnd) (ws := wsX2_gladAtEnd) (av := [.ref h0]) (Qc := fun A => va_Qi (fun (r : Int32) (u : Int32 × Int32 × Int32 × (Nat → Int32) × (Nat → Int32) × (Nat → Int32) × (Nat → Int32)) => 0 ≤ r.toInt ∧ r.toInt ≤ lpe.toInt) (fun u => Wd D cI cZ cM A ((fun u => [(h0, .inr (2, [.ref tl, .ref mo, .ref rd])), (mo, .inr (1, [.ref ln, .int u.1, .int mt, .int u.2.1, .int u.2.2.1, .ref mat, .ref mfd, .ref mhd])), (ln, .inr (0, [.int lpe, .int ltk, .ref lho, .ref lli, .ref lki, .ref lfd, .ref lfr, .ref lto, .ref lse, .ref lhl])), (lto, .inl (cI, 7, .inl lFto)), (lfr, .inl (cI, 7, .inl lFfr)), (lki, .inl (cI, 5, .inl lFki)), (lli, .inl (cI, 5, .inl lFli)), (mat, .inl (cI, 5, .inl u.2.2.2.1)), (mfd, .inl (cI, 7, .inl u.2.2.2.2.1)), (mhd, .inl (cI, 7, .inl u.2.2.2.2.2.1)), (rd, .inl (cI, 5, .inl u.2.2.2.2.2.2))]) u)) A) cX2_gladAtEnd 1 (some .int) (by decide) rfl (Nat.le_of_ble_eq_true rfl) ?_
  intro p e s m args below meth c R Q A ls hBd hR hQ hA hS hK hP hD hl
  obtain ⟨hx, hb, hr, hts, hown, hlocks, hin, hml⟩ := hBd
  have hl : lv_has ls 1 [(0, .ref h0)] := hl
  have iX2 : ∀ w ∈ wsX20, w ∈ wsX2_gladAtEnd := fun _ h => List.mem_cons_of_mem _ (List.mem_append_left _ (List.mem_append_left _ (List.mem_append_right _ h)))
  have iX1 : ∀ w ∈ wsX10, w ∈ wsX2_gladAtEnd := fun _ h => List.mem_cons_of_mem _ (List.mem_append_left _ (List.mem_append_right _ h))
  have iX0 : ∀ w ∈ wsX00, w ∈ wsX2_gladAtEnd := fun _ h => List.mem_cons_of_mem _ (List.mem_append_right _ h)
  obtain ⟨h_mta, h_mtb⟩ := h_mt
  obtain ⟨h_lpea, h_lpeb⟩ := h_lpe
  obtain ⟨h_mda, h_mdb⟩ := h_md
  refine lv_aload_n hx hb dX2_gladAtEnd_0 rfl (lv_at hl 0 rfl) ?_
  refine lv_bipush (v := 10) hx hb dX2_gladAtEnd_1 (by decide) ?_
  refine cV_v (As := [.int 10]) (rest := []) ⟨hx, hb, hml, hown, hts⟩ (c_X2_passDaysTo l D cI cZ cM h0 10 tl mo rd ln md mt mr mg mat mfd mhd lpe ltk lho lli lki lfd lfr lto lse lhl lFto lFfr lFki mFat mFfd mFhd Frd _ (show 0 ≤ mt.toInt ∧ mt.toInt ≤ 7 by omega) (show 0 ≤ lpe.toInt ∧ lpe.toInt ≤ 5 by omega) (show 0 ≤ md.toInt ∧ md.toInt ≤ 10 by omega) (by decide)) (cwV 1 hts gX2_gladAtEnd_X2_passDaysTo rfl rfl rfl (by decide +kernel) ⟨by rw [hR]; decide, by rw [hR]; decide⟩) hK hP hD hS hA [0, 1, 2, 3, 4, 5, 7, 8, 9, 10] [6] rfl rfl (by decide) (by decide) (by decide) rfl 0 rfl hl.1 rfl rfl (Nat.le_of_ble_eq_true rfl) dX2_gladAtEnd_3 ⟨by rw [hR]; decide, by rw [hR]; decide⟩ (fun u_9 H locs hw hP hD hS => ?_)
  obtain ⟨md1_1, mr1_2, mg1_3, Gat_4, Gfd_5, Ghd_6, Grd_7⟩ := u_9
  have hP : va_P D vwCl [(h0, .inr (2, [.ref tl, .ref mo, .ref rd])), (mo, .inr (1, [.ref ln, .int md1_1, .int mt, .int mr1_2, .int mg1_3, .ref mat, .ref mfd, .ref mhd])), (ln, .inr (0, [.int lpe, .int ltk, .ref lho, .ref lli, .ref lki, .ref lfd, .ref lfr, .ref lto, .ref lse, .ref lhl])), (lto, .inl (cI, 7, .inl lFto)), (lfr, .inl (cI, 7, .inl lFfr)), (lki, .inl (cI, 5, .inl lFki)), (lli, .inl (cI, 5, .inl lFli)), (mat, .inl (cI, 5, .inl Gat_4)), (mfd, .inl (cI, 7, .inl Gfd_5)), (mhd, .inl (cI, 7, .inl Ghd_6)), (rd, .inl (cI, 5, .inl Grd_7))] H := hP.sub [1, 2, 3, 4, 5, 6, 0, 7, 8, 9, 10] rfl
  have hD : va_D A [(h0, .inr (2, [.ref tl, .ref mo, .ref rd])), (mo, .inr (1, [.ref ln, .int md1_1, .int mt, .int mr1_2, .int mg1_3, .ref mat, .ref mfd, .ref mhd])), (ln, .inr (0, [.int lpe, .int ltk, .ref lho, .ref lli, .ref lki, .ref lfd, .ref lfr, .ref lto, .ref lse, .ref lhl])), (lto, .inl (cI, 7, .inl lFto)), (lfr, .inl (cI, 7, .inl lFfr)), (lki, .inl (cI, 5, .inl lFki)), (lli, .inl (cI, 5, .inl lFli)), (mat, .inl (cI, 5, .inl Gat_4)), (mfd, .inl (cI, 7, .inl Gfd_5)), (mhd, .inl (cI, 7, .inl Ghd_6)), (rd, .inl (cI, 5, .inl Grd_7))] := hD.sub [1, 2, 3, 4, 5, 6, 0, 7, 8, 9, 10] (by decide) rfl
  refine W.widen (k := 0) (n := 0) (Nat.le_refl _) (Nat.le_refl _) ?_
  have hw : md.toInt ≤ (10 : Int) → md1_1.toInt = (10 : Int) := hw
  have hw_10 := hw
  refine lv_aload_n hx hb dX2_gladAtEnd_6 rfl (lv_at hl 0 rfl) ?_
  refine va_get (D := D) (ci := 2) (v := .ref mo) (C := RX2) (T := TX2) (N := 3) hx hb hts iX2 hown hK hP 0 rfl rfl 1 (by decide) (hts (.fieldLink RX2 24 "PunchedTicket$Trial" "moment" "LPunchedTicket$Moment;") (List.mem_of_getElem? (i := 1) rfl)) (fun _ h9 => h9) rfl dX2_gladAtEnd_7 ?_
  refine cV_i (As := []) (rest := []) ⟨hx, hb, hml, hown, hts⟩ (c_X1_gladNow l D cI cZ cM mo ln md1_1 mt mr1_2 mg1_3 mat mfd mhd lpe ltk lho lli lki lfd lfr lto lse lhl lFli Gat_4 _ (show 0 ≤ lpe.toInt ∧ lpe.toInt ≤ 5 by omega)) (cwV 0 hts gX2_gladAtEnd_X1_gladNow rfl rfl rfl (by decide +kernel) ⟨by rw [hR]; decide, by rw [hR]; decide⟩) hK hP hD hS hA [1, 2, 6, 7] [0, 3, 4, 5, 8, 9, 10] rfl rfl (by decide) (by decide) (by decide) rfl 1 rfl hl.1 rfl rfl (Nat.le_of_ble_eq_true rfl) dX2_gladAtEnd_10 ⟨by rw [hR]; decide, by rw [hR]; decide⟩ (fun r_11 u_12 H locs hw hP hD hS => ?_)
  have hP : va_P D vwCl [(h0, .inr (2, [.ref tl, .ref mo, .ref rd])), (mo, .inr (1, [.ref ln, .int md1_1, .int mt, .int mr1_2, .int mg1_3, .ref mat, .ref mfd, .ref mhd])), (ln, .inr (0, [.int lpe, .int ltk, .ref lho, .ref lli, .ref lki, .ref lfd, .ref lfr, .ref lto, .ref lse, .ref lhl])), (lto, .inl (cI, 7, .inl lFto)), (lfr, .inl (cI, 7, .inl lFfr)), (lki, .inl (cI, 5, .inl lFki)), (lli, .inl (cI, 5, .inl lFli)), (mat, .inl (cI, 5, .inl Gat_4)), (mfd, .inl (cI, 7, .inl Gfd_5)), (mhd, .inl (cI, 7, .inl Ghd_6)), (rd, .inl (cI, 5, .inl Grd_7))] H := hP.sub [0, 7, 8, 1, 2, 3, 9, 10, 4, 5, 6] rfl
  have hD : va_D A [(h0, .inr (2, [.ref tl, .ref mo, .ref rd])), (mo, .inr (1, [.ref ln, .int md1_1, .int mt, .int mr1_2, .int mg1_3, .ref mat, .ref mfd, .ref mhd])), (ln, .inr (0, [.int lpe, .int ltk, .ref lho, .ref lli, .ref lki, .ref lfd, .ref lfr, .ref lto, .ref lse, .ref lhl])), (lto, .inl (cI, 7, .inl lFto)), (lfr, .inl (cI, 7, .inl lFfr)), (lki, .inl (cI, 5, .inl lFki)), (lli, .inl (cI, 5, .inl lFli)), (mat, .inl (cI, 5, .inl Gat_4)), (mfd, .inl (cI, 7, .inl Gfd_5)), (mhd, .inl (cI, 7, .inl Ghd_6)), (rd, .inl (cI, 5, .inl Grd_7))] := hD.sub [0, 7, 8, 1, 2, 3, 9, 10, 4, 5, 6] (by decide) rfl
  refine W.widen (k := 0) (n := 0) (Nat.le_refl _) (Nat.le_refl _) ?_
  have hw : 0 ≤ r_11.toInt ∧ r_11.toInt ≤ lpe.toInt := hw
  have hw_13 := hw
  obtain ⟨hw_13a, hw_13b⟩ := hw_13
  exact ret_i (post := (fun (r : Int32) (u : Int32 × Int32 × Int32 × (Nat → Int32) × (Nat → Int32) × (Nat → Int32) × (Nat → Int32)) => 0 ≤ r.toInt ∧ r.toInt ≤ lpe.toInt)) (W1 := (fun u => [(h0, .inr (2, [.ref tl, .ref mo, .ref rd])), (mo, .inr (1, [.ref ln, .int u.1, .int mt, .int u.2.1, .int u.2.2.1, .ref mat, .ref mfd, .ref mhd])), (ln, .inr (0, [.int lpe, .int ltk, .ref lho, .ref lli, .ref lki, .ref lfd, .ref lfr, .ref lto, .ref lse, .ref lhl])), (lto, .inl (cI, 7, .inl lFto)), (lfr, .inl (cI, 7, .inl lFfr)), (lki, .inl (cI, 5, .inl lFki)), (lli, .inl (cI, 5, .inl lFli)), (mat, .inl (cI, 5, .inl u.2.2.2.1)), (mfd, .inl (cI, 7, .inl u.2.2.2.2.1)), (mhd, .inl (cI, 7, .inl u.2.2.2.2.2.1)), (rd, .inl (cI, 5, .inl u.2.2.2.2.2.2))])) (md1_1, mr1_2, mg1_3, Gat_4, Gfd_5, Ghd_6, Grd_7) hx hb hr hlocks rfl hQ hK hP hD hS ⟨by decide, by decide⟩ dX2_gladAtEnd_13 (show 0 ≤ r_11.toInt ∧ r_11.toInt ≤ lpe.toInt by omega)

set_option maxHeartbeats 600000 in
set_option maxRecDepth 100000 in
theorem c_X2_barredSeats0 (l : Launch) (D : va_G) (cI cZ cM : ClassId) (h0 : Nat) (n : Int32) (tl : Nat) (mo : Nat) (rd : Nat) (ltk : Int32) (lho : Nat) (lli : Nat) (lki : Nat) (lfd : Nat) (lfr : Nat) (lto : Nat) (lse : Nat) (lhl : Nat) (sz : Nat)  : Ci l yX2_barredSeats wsX2_barredSeats ({ frames := 0, cells := 0, slots := 0, locals := 0 } : Room) D cI cZ cM [.ref h0, .int n] [(h0, .inr (2, [.ref tl, .ref mo, .ref rd])), (tl, .inr (0, [.int 0, .int ltk, .ref lho, .ref lli, .ref lki, .ref lfd, .ref lfr, .ref lto, .ref lse, .ref lhl]))] sz (fun (r : Int32) (u : Unit) => r.toInt = 0) (fun u => [(h0, .inr (2, [.ref tl, .ref mo, .ref rd])), (tl, .inr (0, [.int 0, .int ltk, .ref lho, .ref lli, .ref lki, .ref lfd, .ref lfr, .ref lto, .ref lse, .ref lhl]))]) 0 0 := by
  refine begins (l := l) (y := yX2_barredSeats) (ws := wsX2_barredSeats) (av := [.ref h0, .int n]) (Qc := fun A => va_Qi (fun (r : Int32) (u : Unit) => r.toInt = 0) (fun u => Wd D cI cZ cM A ((fun u => [(h0, .inr (2, [.ref tl, .ref mo, .ref rd])), (tl, .inr (0, [.int 0, .int ltk, .ref lho, .ref lli, .ref lki, .ref lfd, .ref lfr, .ref lto, .ref lse, .ref lhl]))]) u)) A) cX2_barredSeats 5 (some .int) (by decide) rfl (Nat.le_of_ble_eq_true rfl) ?_
  intro p e s m args below meth c R Q A ls hBd hR hQ hA hS hK hP hD hl
  obtain ⟨hx, hb, hr, hts, hown, hlocks, hin, hml⟩ := hBd
  have hl : lv_has ls 5 [(0, .ref h0), (1, .int n)] := hl
  have iX2 : ∀ w ∈ wsX20, w ∈ wsX2_barredSeats := fun _ h => List.mem_cons_of_mem _ (List.mem_append_left _ (List.mem_append_left _ (List.mem_append_right _ h)))
  have iX0 : ∀ w ∈ wsX00, w ∈ wsX2_barredSeats := fun _ h => List.mem_cons_of_mem _ (List.mem_append_left _ (List.mem_append_right _ h))
  have iX1 : ∀ w ∈ wsX10, w ∈ wsX2_barredSeats := fun _ h => List.mem_cons_of_mem _ (List.mem_append_right _ h)
  refine lv_iconst (v := 0) hx hb dX2_barredSeats_0 (by decide) ?_
  refine lv_istore_n (lv' := [(2, .int 0), (0, .ref h0), (1, .int n)]) hx hb dX2_barredSeats_1 rfl hl (by decide) rfl (fun ls hl => ?_)
  refine lv_iconst (v := 0) hx hb dX2_barredSeats_2 (by decide) ?_
  refine lv_istore_n (lv' := [(3, .int 0), (2, .int 0), (0, .ref h0), (1, .int n)]) hx hb dX2_barredSeats_3 rfl hl (by decide) rfl (fun ls hl => ?_)
  refine lv_iload_n hx hb dX2_barredSeats_4 rfl (lv_at hl 0 rfl) ?_
  refine lv_aload_n hx hb dX2_barredSeats_5 rfl (lv_at hl 2 rfl) ?_
  refine va_get (D := D) (ci := 2) (v := .ref tl) (C := RX2) (T := TX2) (N := 3) hx hb hts iX2 hown hK hP 0 rfl rfl 0 (by decide) (hts (.fieldLink RX2 15 "PunchedTicket$Trial" "line" "LPunchedTicket$Line;") (List.mem_of_getElem? (i := 1) rfl)) (fun _ h9 => h9) rfl dX2_barredSeats_6 ?_
  refine va_get (D := D) (ci := 0) (v := .int 0) (C := RX0) (T := TX0) (N := 10) hx hb hts iX0 hown hK hP 1 rfl rfl 0 (by decide) (hts (.fieldLink RX2 98 "PunchedTicket$Line" "people" "I") (List.mem_of_getElem? (i := 2) rfl)) (fun _ h9 => h9) rfl dX2_barredSeats_9 ?_
  refine lv_icmp_ge (tgt := 75) hx hb dX2_barredSeats_12 (by decide) (fun c_1 => ?_) (fun c_1 => ?_)
  · have tc_1 := b_le (show (0 : Int32).toInt = 0 by decide) (show (0 : Int32).toInt = 0 by decide) c_1
    refine lv_iload_n hx hb dX2_barredSeats_75 rfl (lv_at hl 1 rfl) ?_
    exact ret_i (post := (fun (r : Int32) (u : Unit) => r.toInt = 0)) (W1 := (fun u => [(h0, .inr (2, [.ref tl, .ref mo, .ref rd])), (tl, .inr (0, [.int 0, .int ltk, .ref lho, .ref lli, .ref lki, .ref lfd, .ref lfr, .ref lto, .ref lse, .ref lhl]))])) () hx hb hr hlocks rfl hQ hK hP hD hS ⟨by decide, by decide⟩ dX2_barredSeats_76 (show (0 : Int) = 0 by omega)
  · have tc_1 := b_nle (show (0 : Int32).toInt = 0 by decide) (show (0 : Int32).toInt = 0 by decide) c_1
    exfalso; omega

set_option maxHeartbeats 600000 in
set_option maxRecDepth 100000 in
theorem c_X2_firstDouble0 (l : Launch) (D : va_G) (cI cZ cM : ClassId) (h0 : Nat) (ln : Nat) (mo : Nat) (rd : Nat) (md : Int32) (mt : Int32) (mr : Int32) (mg : Int32) (mat : Nat) (mfd : Nat) (mhd : Nat) (ltk : Int32) (lho : Nat) (lli : Nat) (lki : Nat) (lfd : Nat) (lfr : Nat) (lto : Nat) (lse : Nat) (lhl : Nat) (lFto : Nat → Int32) (lFfr : Nat → Int32) (lFki : Nat → Int32) (mFat : Nat → Int32) (mFfd : Nat → Int32) (mFhd : Nat → Int32) (Frd : Nat → Int32) (sz : Nat) (h_mt : 0 ≤ mt.toInt ∧ mt.toInt ≤ 7) (h_md : 0 ≤ md.toInt ∧ md.toInt ≤ 10) : Ci l yX2_firstDouble wsX2_firstDouble ({ frames := 3, cells := 0, slots := 0, locals := 71 } : Room) D cI cZ cM [.ref h0] [(h0, .inr (2, [.ref ln, .ref mo, .ref rd])), (mo, .inr (1, [.ref ln, .int md, .int mt, .int mr, .int mg, .ref mat, .ref mfd, .ref mhd])), (ln, .inr (0, [.int 0, .int ltk, .ref lho, .ref lli, .ref lki, .ref lfd, .ref lfr, .ref lto, .ref lse, .ref lhl])), (lto, .inl (cI, 7, .inl lFto)), (lfr, .inl (cI, 7, .inl lFfr)), (lki, .inl (cI, 5, .inl lFki)), (mat, .inl (cI, 5, .inl mFat)), (mfd, .inl (cI, 7, .inl mFfd)), (mhd, .inl (cI, 7, .inl mFhd)), (rd, .inl (cI, 5, .inl Frd))] sz (fun (r : Int32) (u : Int32 × Int32 × Int32 × (Nat → Int32) × (Nat → Int32) × (Nat → Int32) × (Nat → Int32)) => r.toInt = -9) (fun u => [(h0, .inr (2, [.ref ln, .ref mo, .ref rd])), (mo, .inr (1, [.ref ln, .int u.1, .int mt, .int u.2.1, .int u.2.2.1, .ref mat, .ref mfd, .ref mhd])), (ln, .inr (0, [.int 0, .int ltk, .ref lho, .ref lli, .ref lki, .ref lfd, .ref lfr, .ref lto, .ref lse, .ref lhl])), (lto, .inl (cI, 7, .inl lFto)), (lfr, .inl (cI, 7, .inl lFfr)), (lki, .inl (cI, 5, .inl lFki)), (mat, .inl (cI, 5, .inl u.2.2.2.1)), (mfd, .inl (cI, 7, .inl u.2.2.2.2.1)), (mhd, .inl (cI, 7, .inl u.2.2.2.2.2.1)), (rd, .inl (cI, 5, .inl u.2.2.2.2.2.2))]) 0 0 := by
  refine begins (l := l) (y := yX2_firstDouble) (ws := wsX2_firstDouble) (av := [.ref h0]) (Qc := fun A => va_Qi (fun (r : Int32) (u : Int32 × Int32 × Int32 × (Nat → Int32) × (Nat → Int32) × (Nat → Int32) × (Nat → Int32)) => r.toInt = -9) (fun u => Wd D cI cZ cM A ((fun u => [(h0, .inr (2, [.ref ln, .ref mo, .ref rd])), (mo, .inr (1, [.ref ln, .int u.1, .int mt, .int u.2.1, .int u.2.2.1, .ref mat, .ref mfd, .ref mhd])), (ln, .inr (0, [.int 0, .int ltk, .ref lho, .ref lli, .ref lki, .ref lfd, .ref lfr, .ref lto, .ref lse, .ref lhl])), (lto, .inl (cI, 7, .inl lFto)), (lfr, .inl (cI, 7, .inl lFfr)), (lki, .inl (cI, 5, .inl lFki)), (mat, .inl (cI, 5, .inl u.2.2.2.1)), (mfd, .inl (cI, 7, .inl u.2.2.2.2.1)), (mhd, .inl (cI, 7, .inl u.2.2.2.2.2.1)), (rd, .inl (cI, 5, .inl u.2.2.2.2.2.2))]) u)) A) cX2_firstDouble 2 (some .int) (by decide) rfl (Nat.le_of_ble_eq_true rfl) ?_
  intro p e s m args below meth c R Q A ls hBd hR hQ hA hS hK hP hD hl
  obtain ⟨hx, hb, hr, hts, hown, hlocks, hin, hml⟩ := hBd
  have hl : lv_has ls 2 [(0, .ref h0)] := hl
  have iX2 : ∀ w ∈ wsX20, w ∈ wsX2_firstDouble := fun _ h => List.mem_cons_of_mem _ (List.mem_append_left _ (List.mem_append_left _ (List.mem_append_right _ h)))
  have iX1 : ∀ w ∈ wsX10, w ∈ wsX2_firstDouble := fun _ h => List.mem_cons_of_mem _ (List.mem_append_left _ (List.mem_append_right _ h))
  have iX0 : ∀ w ∈ wsX00, w ∈ wsX2_firstDouble := fun _ h => List.mem_cons_of_mem _ (List.mem_append_right _ h)
  obtain ⟨h_mta, h_mtb⟩ := h_mt
  obtain ⟨h_mda, h_mdb⟩ := h_md
  refine lv_aload_n hx hb dX2_firstDouble_0 rfl (lv_at hl 0 rfl) ?_
  refine va_get (D := D) (ci := 2) (v := .ref mo) (C := RX2) (T := TX2) (N := 3) hx hb hts iX2 hown hK hP 0 rfl rfl 1 (by decide) (hts (.fieldLink RX2 24 "PunchedTicket$Trial" "moment" "LPunchedTicket$Moment;") (List.mem_of_getElem? (i := 1) rfl)) (fun _ h9 => h9) rfl dX2_firstDouble_1 ?_
  refine va_get (D := D) (ci := 1) (v := .int md) (C := RX1) (T := TX1) (N := 8) hx hb hts iX1 hown hK hP 1 rfl rfl 1 (by decide) (hts (.fieldLink RX2 51 "PunchedTicket$Moment" "day" "I") (List.mem_of_getElem? (i := 2) rfl)) (fun _ h9 => h9) rfl dX2_firstDouble_4 ?_
  refine lv_istore_n (lv' := [(1, .int md), (0, .ref h0)]) hx hb dX2_firstDouble_7 rfl hl (by decide) rfl (fun ls hl => ?_)
  have LOOP_1 : ∀ (fu : Nat) (x1 : Int32) (nd : Int32) (nr : Int32) (ng : Int32) (nat : Nat → Int32) (nfd : Nat → Int32) (nhd : Nat → Int32) (nrd : Nat → Int32) (H : Heap) (locs : List Loc) (ls : Array Slot), (10 - x1.toInt).toNat < fu → (0 ≤ x1.toInt ∧ x1.toInt ≤ 10) → (0 ≤ nd.toInt ∧ nd.toInt ≤ 10) → (x1.toInt = nd.toInt) → va_P D vwCl [(h0, .inr (2, [.ref ln, .ref mo, .ref rd])), (mo, .inr (1, [.ref ln, .int nd, .int mt, .int nr, .int ng, .ref mat, .ref mfd, .ref mhd])), (ln, .inr (0, [.int 0, .int ltk, .ref lho, .ref lli, .ref lki, .ref lfd, .ref lfr, .ref lto, .ref lse, .ref lhl])), (lto, .inl (cI, 7, .inl lFto)), (lfr, .inl (cI, 7, .inl lFfr)), (lki, .inl (cI, 5, .inl lFki)), (mat, .inl (cI, 5, .inl nat)), (mfd, .inl (cI, 7, .inl nfd)), (mhd, .inl (cI, 7, .inl nhd)), (rd, .inl (cI, 5, .inl nrd))] H → va_D A [(h0, .inr (2, [.ref ln, .ref mo, .ref rd])), (mo, .inr (1, [.ref ln, .int nd, .int mt, .int nr, .int ng, .ref mat, .ref mfd, .ref mhd])), (ln, .inr (0, [.int 0, .int ltk, .ref lho, .ref lli, .ref lki, .ref lfd, .ref lfr, .ref lto, .ref lse, .ref lhl])), (lto, .inl (cI, 7, .inl lFto)), (lfr, .inl (cI, 7, .inl lFfr)), (lki, .inl (cI, 5, .inl lFki)), (mat, .inl (cI, 5, .inl nat)), (mfd, .inl (cI, 7, .inl nfd)), (mhd, .inl (cI, 7, .inl nhd)), (rd, .inl (cI, 5, .inl nrd))] → va_S A s.heap H locs → lv_has ls 2 [(0, .ref h0), (1, .int x1)] → W p l e R s m args below meth c H locs 0 0 Q (F0 m 8 ls []) := by
    intro fu
    induction fu with
    | zero => intro x1 nd nr ng nat nfd nhd nrd H locs ls hmu; exact absurd hmu (Nat.not_lt_zero _)
    | succ fu ih =>
      intro x1 nd nr ng nat nfd nhd nrd H locs ls hmu h_x1 h_nd hxd hP hD hS hl
      obtain ⟨h_x1a, h_x1b⟩ := h_x1
      obtain ⟨h_nda, h_ndb⟩ := h_nd
      have ih_2 := ih
      clear ih
      refine lv_iload_n hx hb dX2_firstDouble_8 rfl (lv_at hl 1 rfl) ?_
      refine lv_bipush (v := 10) hx hb dX2_firstDouble_9 (by decide) ?_
      refine lv_icmp_ge (tgt := 43) hx hb dX2_firstDouble_11 (by decide) (fun c_3 => ?_) (fun c_3 => ?_)
      · have tc_3 := b_le (show (10 : Int32).toInt = 10 by decide) rfl c_3
        refine lv_bipush (v := (-9)) hx hb dX2_firstDouble_43 (by decide) ?_
        exact ret_i (post := (fun (r : Int32) (u : Int32 × Int32 × Int32 × (Nat → Int32) × (Nat → Int32) × (Nat → Int32) × (Nat → Int32)) => r.toInt = -9)) (W1 := (fun u => [(h0, .inr (2, [.ref ln, .ref mo, .ref rd])), (mo, .inr (1, [.ref ln, .int u.1, .int mt, .int u.2.1, .int u.2.2.1, .ref mat, .ref mfd, .ref mhd])), (ln, .inr (0, [.int 0, .int ltk, .ref lho, .ref lli, .ref lki, .ref lfd, .ref lfr, .ref lto, .ref lse, .ref lhl])), (lto, .inl (cI, 7, .inl lFto)), (lfr, .inl (cI, 7, .inl lFfr)), (lki, .inl (cI, 5, .inl lFki)), (mat, .inl (cI, 5, .inl u.2.2.2.1)), (mfd, .inl (cI, 7, .inl u.2.2.2.2.1)), (mhd, .inl (cI, 7, .inl u.2.2.2.2.2.1)), (rd, .inl (cI, 5, .inl u.2.2.2.2.2.2))])) (nd, nr, ng, nat, nfd, nhd, nrd) hx hb hr hlocks rfl hQ hK hP hD hS ⟨by decide, by decide⟩ dX2_firstDouble_45 (show (-9 : Int) = -9 by omega)
      · have tc_3 := b_nle (show (10 : Int32).toInt = 10 by decide) rfl c_3
        refine lv_aload_n hx hb dX2_firstDouble_14 rfl (lv_at hl 0 rfl) ?_
        refine va_get (D := D) (ci := 2) (v := .ref mo) (C := RX2) (T := TX2) (N := 3) hx hb hts iX2 hown hK hP 0 rfl rfl 1 (by decide) (hts (.fieldLink RX2 24 "PunchedTicket$Trial" "moment" "LPunchedTicket$Moment;") (List.mem_of_getElem? (i := 1) rfl)) (fun _ h9 => h9) rfl dX2_firstDouble_15 ?_
        refine lv_aload_n hx hb dX2_firstDouble_18 rfl (lv_at hl 0 rfl) ?_
        refine va_get (D := D) (ci := 2) (v := .ref rd) (C := RX2) (T := TX2) (N := 3) hx hb hts iX2 hown hK hP 0 rfl rfl 2 (by decide) (hts (.fieldLink RX2 9 "PunchedTicket$Trial" "rides" "[I") (List.mem_of_getElem? (i := 3) rfl)) (fun _ h9 => h9) rfl dX2_firstDouble_19 ?_
        refine cV_i (As := [.ref rd]) (rest := []) ⟨hx, hb, hml, hown, hts⟩ (c_X1_passDay l D cI cZ cM mo rd ln nd mt nr ng mat mfd mhd 0 ltk lho lli lki lfd lfr lto lse lhl lFto lFfr lFki nat nfd nhd nrd _ (show 0 ≤ mt.toInt ∧ mt.toInt ≤ 7 by omega) (by decide) (show 0 ≤ nd.toInt ∧ nd.toInt ≤ 9 by omega)) (cwV 1 hts gX2_firstDouble_X1_passDay rfl rfl rfl (by decide +kernel) ⟨by rw [hR]; decide, by rw [hR]; decide⟩) hK hP hD hS hA [1, 2, 3, 4, 5, 6, 7, 8, 9] [0] rfl rfl (by decide) (by decide) (by decide) rfl 1 rfl hl.1 rfl rfl (Nat.le_of_ble_eq_true rfl) dX2_firstDouble_22 ⟨by rw [hR]; decide, by rw [hR]; decide⟩ (fun r_11 u_12 H locs hw hP hD hS => ?_)
        obtain ⟨md1_4, mr1_5, mg1_6, Gat_7, Gfd_8, Ghd_9, Grd_10⟩ := u_12
        have hP : va_P D vwCl [(h0, .inr (2, [.ref ln, .ref mo, .ref rd])), (mo, .inr (1, [.ref ln, .int md1_4, .int mt, .int mr1_5, .int mg1_6, .ref mat, .ref mfd, .ref mhd])), (ln, .inr (0, [.int 0, .int ltk, .ref lho, .ref lli, .ref lki, .ref lfd, .ref lfr, .ref lto, .ref lse, .ref lhl])), (lto, .inl (cI, 7, .inl lFto)), (lfr, .inl (cI, 7, .inl lFfr)), (lki, .inl (cI, 5, .inl lFki)), (mat, .inl (cI, 5, .inl Gat_7)), (mfd, .inl (cI, 7, .inl Gfd_8)), (mhd, .inl (cI, 7, .inl Ghd_9)), (rd, .inl (cI, 5, .inl Grd_10))] H := hP.sub [0, 1, 2, 3, 4, 5, 6, 7, 8, 9] rfl
        have hD : va_D A [(h0, .inr (2, [.ref ln, .ref mo, .ref rd])), (mo, .inr (1, [.ref ln, .int md1_4, .int mt, .int mr1_5, .int mg1_6, .ref mat, .ref mfd, .ref mhd])), (ln, .inr (0, [.int 0, .int ltk, .ref lho, .ref lli, .ref lki, .ref lfd, .ref lfr, .ref lto, .ref lse, .ref lhl])), (lto, .inl (cI, 7, .inl lFto)), (lfr, .inl (cI, 7, .inl lFfr)), (lki, .inl (cI, 5, .inl lFki)), (mat, .inl (cI, 5, .inl Gat_7)), (mfd, .inl (cI, 7, .inl Gfd_8)), (mhd, .inl (cI, 7, .inl Ghd_9)), (rd, .inl (cI, 5, .inl Grd_10))] := hD.sub [0, 1, 2, 3, 4, 5, 6, 7, 8, 9] (by decide) rfl
        refine W.widen (k := 0) (n := 0) (Nat.le_refl _) (Nat.le_refl _) ?_
        have hw : md1_4.toInt = nd.toInt + 1 ∧ ((0 : Int) = 0 → r_11.toInt = 0) := hw
        have hw_13 := hw
        refine lv_pop hx hb dX2_firstDouble_25 rfl ?_
        refine lv_aload_n hx hb dX2_firstDouble_26 rfl (lv_at hl 0 rfl) ?_
        refine lv_bipush (v := (-9)) hx hb dX2_firstDouble_27 (by decide) ?_
        refine cV_i (As := [.int (-9)]) (rest := []) ⟨hx, hb, hml, hown, hts⟩ (c_X2_barredSeats0 l D cI cZ cM h0 (-9) ln mo rd ltk lho lli lki lfd lfr lto lse lhl _ ) (cwV 1 hts gX2_firstDouble_X2_barredSeats rfl rfl rfl (by decide +kernel) ⟨by rw [hR]; decide, by rw [hR]; decide⟩) hK hP hD hS hA [0, 2] [1, 3, 4, 5, 6, 7, 8, 9] rfl rfl (by decide) (by decide) (by decide) rfl 0 rfl hl.1 rfl rfl (Nat.le_of_ble_eq_true rfl) dX2_firstDouble_29 ⟨by rw [hR]; decide, by rw [hR]; decide⟩ (fun r_14 u_15 H locs hw hP hD hS => ?_)
        have hP : va_P D vwCl [(h0, .inr (2, [.ref ln, .ref mo, .ref rd])), (mo, .inr (1, [.ref ln, .int md1_4, .int mt, .int mr1_5, .int mg1_6, .ref mat, .ref mfd, .ref mhd])), (ln, .inr (0, [.int 0, .int ltk, .ref lho, .ref lli, .ref lki, .ref lfd, .ref lfr, .ref lto, .ref lse, .ref lhl])), (lto, .inl (cI, 7, .inl lFto)), (lfr, .inl (cI, 7, .inl lFfr)), (lki, .inl (cI, 5, .inl lFki)), (mat, .inl (cI, 5, .inl Gat_7)), (mfd, .inl (cI, 7, .inl Gfd_8)), (mhd, .inl (cI, 7, .inl Ghd_9)), (rd, .inl (cI, 5, .inl Grd_10))] H := hP.sub [8, 0, 9, 1, 2, 3, 4, 5, 6, 7] rfl
        have hD : va_D A [(h0, .inr (2, [.ref ln, .ref mo, .ref rd])), (mo, .inr (1, [.ref ln, .int md1_4, .int mt, .int mr1_5, .int mg1_6, .ref mat, .ref mfd, .ref mhd])), (ln, .inr (0, [.int 0, .int ltk, .ref lho, .ref lli, .ref lki, .ref lfd, .ref lfr, .ref lto, .ref lse, .ref lhl])), (lto, .inl (cI, 7, .inl lFto)), (lfr, .inl (cI, 7, .inl lFfr)), (lki, .inl (cI, 5, .inl lFki)), (mat, .inl (cI, 5, .inl Gat_7)), (mfd, .inl (cI, 7, .inl Gfd_8)), (mhd, .inl (cI, 7, .inl Ghd_9)), (rd, .inl (cI, 5, .inl Grd_10))] := hD.sub [8, 0, 9, 1, 2, 3, 4, 5, 6, 7] (by decide) rfl
        refine W.widen (k := 0) (n := 0) (Nat.le_refl _) (Nat.le_refl _) ?_
        have hw : r_14.toInt = 0 := hw
        have hw_16 := hw
        refine lv_if_eq (tgt := 37) hx hb dX2_firstDouble_32 (by decide) (fun c_17 => ?_) (fun c_17 => ?_)
        · have tc_17 := b_eq rfl (show (0 : Int32).toInt = 0 by decide) c_17
          obtain ⟨v_18, ev_18⟩ : ∃ z : Int32, z = x1 + 1 := ⟨_, rfl⟩
          have tv_18 : v_18.toInt = x1.toInt + 1 := by rw [ev_18]; exact ti_add (x := x1) (y := 1) (show -2147483648 ≤ x1.toInt + 1 by omega) (show x1.toInt + 1 < 2147483648 by omega)
          refine lv_iinc (v := v_18) (lv' := [(1, .int v_18), (0, .ref h0)]) hx hb dX2_firstDouble_37 hl (k := 1) rfl (by rw [ev_18]; rfl) (by decide) rfl (fun ls hl => ?_)
          refine lv_goto (tgt := 8) hx hb dX2_firstDouble_40 (by decide) ?_
          exact ih_2 v_18 md1_4 mr1_5 mg1_6 Gat_7 Gfd_8 Ghd_9 Grd_10 _ _ _ (show (10 - v_18.toInt).toNat < fu by omega) (show 0 ≤ v_18.toInt ∧ v_18.toInt ≤ 10 by omega) (show 0 ≤ md1_4.toInt ∧ md1_4.toInt ≤ 10 by omega) (show v_18.toInt = md1_4.toInt by omega) hP hD hS (lv_sub hl [1, 0] rfl)
        · have tc_17 := b_ne rfl (show (0 : Int32).toInt = 0 by decide) c_17
          exfalso; omega
  exact LOOP_1 _ md md mr mg mFat mFfd mFhd Frd _ _ _ (Nat.lt_succ_self _) (show 0 ≤ md.toInt ∧ md.toInt ≤ 10 by omega) (show 0 ≤ md.toInt ∧ md.toInt ≤ 10 by omega) (show md.toInt = md.toInt by omega) hP hD hS (lv_sub hl [1, 0] rfl)
