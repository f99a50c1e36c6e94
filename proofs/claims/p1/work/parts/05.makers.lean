theorem dX0_init_0 : decode cX0_init 0 = .ok (.aload_n 0, 1) := by decide +kernel
theorem dX0_init_1 : decode cX0_init 1 = .ok (.invokespecial 3, 3) := by decide +kernel
theorem dX0_init_4 : decode cX0_init 4 = .ok (.aload_n 0, 1) := by decide +kernel
theorem dX0_init_5 : decode cX0_init 5 = .ok (.iconst 0, 1) := by decide +kernel
theorem dX0_init_6 : decode cX0_init 6 = .ok (.putfield 9, 3) := by decide +kernel
theorem dX0_init_9 : decode cX0_init 9 = .ok (.aload_n 0, 1) := by decide +kernel
theorem dX0_init_10 : decode cX0_init 10 = .ok (.iconst 0, 1) := by decide +kernel
theorem dX0_init_11 : decode cX0_init 11 = .ok (.putfield 15, 3) := by decide +kernel
theorem dX0_init_14 : decode cX0_init 14 = .ok (.aload_n 0, 1) := by decide +kernel
theorem dX0_init_15 : decode cX0_init 15 = .ok (.iconst 5, 1) := by decide +kernel
theorem dX0_init_16 : decode cX0_init 16 = .ok (.newarray .int, 2) := by decide +kernel
theorem dX0_init_18 : decode cX0_init 18 = .ok (.putfield 18, 3) := by decide +kernel
theorem dX0_init_21 : decode cX0_init 21 = .ok (.aload_n 0, 1) := by decide +kernel
theorem dX0_init_22 : decode cX0_init 22 = .ok (.iconst 5, 1) := by decide +kernel
theorem dX0_init_23 : decode cX0_init 23 = .ok (.newarray .int, 2) := by decide +kernel
theorem dX0_init_25 : decode cX0_init 25 = .ok (.putfield 22, 3) := by decide +kernel
theorem dX0_init_28 : decode cX0_init 28 = .ok (.aload_n 0, 1) := by decide +kernel
theorem dX0_init_29 : decode cX0_init 29 = .ok (.iconst 5, 1) := by decide +kernel
theorem dX0_init_30 : decode cX0_init 30 = .ok (.newarray .int, 2) := by decide +kernel
theorem dX0_init_32 : decode cX0_init 32 = .ok (.putfield 25, 3) := by decide +kernel
theorem dX0_init_35 : decode cX0_init 35 = .ok (.aload_n 0, 1) := by decide +kernel
theorem dX0_init_36 : decode cX0_init 36 = .ok (.bipush 7, 2) := by decide +kernel
theorem dX0_init_38 : decode cX0_init 38 = .ok (.newarray .int, 2) := by decide +kernel
theorem dX0_init_40 : decode cX0_init 40 = .ok (.putfield 28, 3) := by decide +kernel
theorem dX0_init_43 : decode cX0_init 43 = .ok (.aload_n 0, 1) := by decide +kernel
theorem dX0_init_44 : decode cX0_init 44 = .ok (.bipush 7, 2) := by decide +kernel
theorem dX0_init_46 : decode cX0_init 46 = .ok (.newarray .int, 2) := by decide +kernel
theorem dX0_init_48 : decode cX0_init 48 = .ok (.putfield 31, 3) := by decide +kernel
theorem dX0_init_51 : decode cX0_init 51 = .ok (.aload_n 0, 1) := by decide +kernel
theorem dX0_init_52 : decode cX0_init 52 = .ok (.bipush 7, 2) := by decide +kernel
theorem dX0_init_54 : decode cX0_init 54 = .ok (.newarray .int, 2) := by decide +kernel
theorem dX0_init_56 : decode cX0_init 56 = .ok (.putfield 34, 3) := by decide +kernel
theorem dX0_init_59 : decode cX0_init 59 = .ok (.aload_n 0, 1) := by decide +kernel
theorem dX0_init_60 : decode cX0_init 60 = .ok (.bipush 7, 2) := by decide +kernel
theorem dX0_init_62 : decode cX0_init 62 = .ok (.newarray .int, 2) := by decide +kernel
theorem dX0_init_64 : decode cX0_init 64 = .ok (.putfield 37, 3) := by decide +kernel
theorem dX0_init_67 : decode cX0_init 67 = .ok (.aload_n 0, 1) := by decide +kernel
theorem dX0_init_68 : decode cX0_init 68 = .ok (.bipush 7, 2) := by decide +kernel
theorem dX0_init_70 : decode cX0_init 70 = .ok (.newarray .int, 2) := by decide +kernel
theorem dX0_init_72 : decode cX0_init 72 = .ok (.putfield 40, 3) := by decide +kernel
theorem dX0_init_75 : decode cX0_init 75 = .ok (.return_, 1) := by decide +kernel
theorem dX1_init_0 : decode cX1_init 0 = .ok (.aload_n 0, 1) := by decide +kernel
theorem dX1_init_1 : decode cX1_init 1 = .ok (.invokespecial 3, 3) := by decide +kernel
theorem dX1_init_4 : decode cX1_init 4 = .ok (.aload_n 0, 1) := by decide +kernel
theorem dX1_init_5 : decode cX1_init 5 = .ok (.iconst 0, 1) := by decide +kernel
theorem dX1_init_6 : decode cX1_init 6 = .ok (.putfield 9, 3) := by decide +kernel
theorem dX1_init_9 : decode cX1_init 9 = .ok (.aload_n 0, 1) := by decide +kernel
theorem dX1_init_10 : decode cX1_init 10 = .ok (.iconst 0, 1) := by decide +kernel
theorem dX1_init_11 : decode cX1_init 11 = .ok (.putfield 15, 3) := by decide +kernel
theorem dX1_init_14 : decode cX1_init 14 = .ok (.aload_n 0, 1) := by decide +kernel
theorem dX1_init_15 : decode cX1_init 15 = .ok (.iconst 0, 1) := by decide +kernel
theorem dX1_init_16 : decode cX1_init 16 = .ok (.putfield 18, 3) := by decide +kernel
theorem dX1_init_19 : decode cX1_init 19 = .ok (.aload_n 0, 1) := by decide +kernel
theorem dX1_init_20 : decode cX1_init 20 = .ok (.iconst 0, 1) := by decide +kernel
theorem dX1_init_21 : decode cX1_init 21 = .ok (.putfield 21, 3) := by decide +kernel
theorem dX1_init_24 : decode cX1_init 24 = .ok (.aload_n 0, 1) := by decide +kernel
theorem dX1_init_25 : decode cX1_init 25 = .ok (.iconst 5, 1) := by decide +kernel
theorem dX1_init_26 : decode cX1_init 26 = .ok (.newarray .int, 2) := by decide +kernel
theorem dX1_init_28 : decode cX1_init 28 = .ok (.putfield 24, 3) := by decide +kernel
theorem dX1_init_31 : decode cX1_init 31 = .ok (.aload_n 0, 1) := by decide +kernel
theorem dX1_init_32 : decode cX1_init 32 = .ok (.bipush 7, 2) := by decide +kernel
theorem dX1_init_34 : decode cX1_init 34 = .ok (.newarray .int, 2) := by decide +kernel
theorem dX1_init_36 : decode cX1_init 36 = .ok (.putfield 28, 3) := by decide +kernel
theorem dX1_init_39 : decode cX1_init 39 = .ok (.aload_n 0, 1) := by decide +kernel
theorem dX1_init_40 : decode cX1_init 40 = .ok (.bipush 7, 2) := by decide +kernel
theorem dX1_init_42 : decode cX1_init 42 = .ok (.newarray .int, 2) := by decide +kernel
theorem dX1_init_44 : decode cX1_init 44 = .ok (.putfield 31, 3) := by decide +kernel
theorem dX1_init_47 : decode cX1_init 47 = .ok (.aload_n 0, 1) := by decide +kernel
theorem dX1_init_48 : decode cX1_init 48 = .ok (.aload_n 1, 1) := by decide +kernel
theorem dX1_init_49 : decode cX1_init 49 = .ok (.putfield 34, 3) := by decide +kernel
theorem dX1_init_52 : decode cX1_init 52 = .ok (.return_, 1) := by decide +kernel
set_option maxRecDepth 20000 in
theorem ggX2_init_X1_init : GoodIn wsX2_init wsX1_init := goodIn_r _ [13, 14, 2, 3, 15, 16, 17, 18, 4, 19, 20, 21, 22, 26, 27, 28, 29, 30, 31, 32, 33] (by decide +kernel) (by decide +kernel)
set_option maxRecDepth 20000 in
theorem gX2_init_X1_init : GoodIn wsX2_init (wsX1_init) := ggX2_init_X1_init
theorem dX2_init_0 : decode cX2_init 0 = .ok (.aload_n 0, 1) := by decide +kernel
theorem dX2_init_1 : decode cX2_init 1 = .ok (.invokespecial 3, 3) := by decide +kernel
theorem dX2_init_4 : decode cX2_init 4 = .ok (.aload_n 0, 1) := by decide +kernel
theorem dX2_init_5 : decode cX2_init 5 = .ok (.iconst 5, 1) := by decide +kernel
theorem dX2_init_6 : decode cX2_init 6 = .ok (.newarray .int, 2) := by decide +kernel
theorem dX2_init_8 : decode cX2_init 8 = .ok (.putfield 9, 3) := by decide +kernel
theorem dX2_init_11 : decode cX2_init 11 = .ok (.aload_n 0, 1) := by decide +kernel
theorem dX2_init_12 : decode cX2_init 12 = .ok (.aload_n 1, 1) := by decide +kernel
theorem dX2_init_13 : decode cX2_init 13 = .ok (.putfield 15, 3) := by decide +kernel
theorem dX2_init_16 : decode cX2_init 16 = .ok (.aload_n 0, 1) := by decide +kernel
theorem dX2_init_17 : decode cX2_init 17 = .ok (.new 19, 3) := by decide +kernel
theorem dX2_init_20 : decode cX2_init 20 = .ok (.dup, 1) := by decide +kernel
theorem dX2_init_21 : decode cX2_init 21 = .ok (.aload_n 1, 1) := by decide +kernel
theorem dX2_init_22 : decode cX2_init 22 = .ok (.invokespecial 21, 3) := by decide +kernel
theorem dX2_init_25 : decode cX2_init 25 = .ok (.putfield 24, 3) := by decide +kernel
theorem dX2_init_28 : decode cX2_init 28 = .ok (.return_, 1) := by decide +kernel
set_option maxHeartbeats 600000 in
set_option maxRecDepth 100000 in
theorem c_X0_init (l : Launch) (D : va_G) (cI cZ cM : ClassId) (h0 : Nat) (sz : Nat)  : Cv l yX0_init wsX0_init ({ frames := 1, cells := 8, slots := 50, locals := 12 } : Room) D cI cZ cM [.ref h0] [(h0, .inr (0, [.int 0, .int 0, .null, .null, .null, .null, .null, .null, .null, .null]))] sz (fun (u : Nat × Nat × Nat × Nat × Nat × Nat × Nat × Nat) => True) (fun u => [(h0, .inr (0, [.int 0, .int 0, .ref u.1, .ref u.2.1, .ref u.2.2.1, .ref u.2.2.2.1, .ref u.2.2.2.2.1, .ref u.2.2.2.2.2.1, .ref u.2.2.2.2.2.2.1, .ref u.2.2.2.2.2.2.2])), (u.1, .inl (cI, 5, .inl (fun _ => 0))), (u.2.1, .inl (cI, 5, .inl (fun _ => 0))), (u.2.2.1, .inl (cI, 5, .inl (fun _ => 0))), (u.2.2.2.1, .inl (cI, 7, .inl (fun _ => 0))), (u.2.2.2.2.1, .inl (cI, 7, .inl (fun _ => 0))), (u.2.2.2.2.2.1, .inl (cI, 7, .inl (fun _ => 0))), (u.2.2.2.2.2.2.1, .inl (cI, 7, .inl (fun _ => 0))), (u.2.2.2.2.2.2.2, .inl (cI, 7, .inl (fun _ => 0)))]) 8 50 := by
  refine begins (l := l) (y := yX0_init) (ws := wsX0_init) (av := [.ref h0]) (Qc := fun A => va_Qv (fun (u : Nat × Nat × Nat × Nat × Nat × Nat × Nat × Nat) => True) (fun u => Wd D cI cZ cM A ((fun u => [(h0, .inr (0, [.int 0, .int 0, .ref u.1, .ref u.2.1, .ref u.2.2.1, .ref u.2.2.2.1, .ref u.2.2.2.2.1, .ref u.2.2.2.2.2.1, .ref u.2.2.2.2.2.2.1, .ref u.2.2.2.2.2.2.2])), (u.1, .inl (cI, 5, .inl (fun _ => 0))), (u.2.1, .inl (cI, 5, .inl (fun _ => 0))), (u.2.2.1, .inl (cI, 5, .inl (fun _ => 0))), (u.2.2.2.1, .inl (cI, 7, .inl (fun _ => 0))), (u.2.2.2.2.1, .inl (cI, 7, .inl (fun _ => 0))), (u.2.2.2.2.2.1, .inl (cI, 7, .inl (fun _ => 0))), (u.2.2.2.2.2.2.1, .inl (cI, 7, .inl (fun _ => 0))), (u.2.2.2.2.2.2.2, .inl (cI, 7, .inl (fun _ => 0)))]) u)) A) cX0_init 1 none (by decide) rfl (Nat.le_of_ble_eq_true rfl) ?_
  intro p e s m args below meth c R Q A ls hBd hR hQ hA hS hK hP hD hl
  obtain ⟨hx, hb, hr, hts, hown, hlocks, hin, hml⟩ := hBd
  have hl : lv_has ls 1 [(0, .ref h0)] := hl
  have iX0 : ∀ w ∈ wsX00, w ∈ wsX0_init := fun _ h => List.mem_cons_of_mem _ (List.mem_append_right _ h)
  refine lv_aload_n hx hb dX0_init_0 rfl (lv_at hl 0 rfl) ?_
  refine W.objInit hx hb hown (hts (.methodLink RX0 3 objectInit) (List.mem_of_getElem? (i := 1) rfl)) (hts (.instanceMethod objectInit) (List.mem_of_getElem? (i := 2) rfl)) (hts (.code objectInit ⟨#[0xb1]⟩ 1 none) (List.mem_of_getElem? (i := 3) rfl)) rfl (by rw [hml]; exact hl.1) rfl dX0_init_1 (by rw [hR]; exact Nat.le_of_ble_eq_true rfl) (by rw [hR]; exact Nat.le_of_ble_eq_true rfl) ?_
  refine W.eq (g2 := F0 m 4 ls []) rfl ?_
  refine lv_aload_n hx hb dX0_init_4 rfl (lv_at hl 0 rfl) ?_
  refine lv_iconst (v := 0) hx hb dX0_init_5 (by decide) ?_
  refine va_put (D := D) (ci := 0) (v := .int 0) (ty := .int) (C := RX0) (T := TX0) (N := 10) hx hb hts iX0 tyX0 tyX0_ok nmX0 hown hK hP hD hS 0 rfl rfl 0 (by decide) (hts (.fieldLink RX0 9 "PunchedTicket$Line" "people" "I") (List.mem_of_getElem? (i := 4) rfl)) (fun _ h9 => h9) rfl (by decide +kernel) rfl rfl (Nat.le_of_ble_eq_true rfl) dX0_init_6 (fun H locs hP hD hS => ?_)
  have hP : va_P D vwCl [(h0, .inr (0, [.int 0, .int 0, .null, .null, .null, .null, .null, .null, .null, .null]))] H := hP
  have hD : va_D A [(h0, .inr (0, [.int 0, .int 0, .null, .null, .null, .null, .null, .null, .null, .null]))] := hD
  refine lv_aload_n hx hb dX0_init_9 rfl (lv_at hl 0 rfl) ?_
  refine lv_iconst (v := 0) hx hb dX0_init_10 (by decide) ?_
  refine va_put (D := D) (ci := 0) (v := .int 0) (ty := .int) (C := RX0) (T := TX0) (N := 10) hx hb hts iX0 tyX0 tyX0_ok nmX0 hown hK hP hD hS 0 rfl rfl 1 (by decide) (hts (.fieldLink RX0 15 "PunchedTicket$Line" "tickets" "I") (List.mem_of_getElem? (i := 5) rfl)) (fun _ h9 => h9) rfl (by decide +kernel) rfl rfl (Nat.le_of_ble_eq_true rfl) dX0_init_11 (fun H locs hP hD hS => ?_)
  have hP : va_P D vwCl [(h0, .inr (0, [.int 0, .int 0, .null, .null, .null, .null, .null, .null, .null, .null]))] H := hP
  have hD : va_D A [(h0, .inr (0, [.int 0, .int 0, .null, .null, .null, .null, .null, .null, .null, .null]))] := hD
  refine lv_aload_n hx hb dX0_init_14 rfl (lv_at hl 0 rfl) ?_
  refine lv_iconst (v := 5) hx hb dX0_init_15 (by decide) ?_
  refine newI hx hb (hts (.arrayClass .int) (List.mem_of_getElem? (i := 6) rfl)) hK hP hD hS hA 5 (by decide) (by decide) (by decide) (by rw [hR]; exact Nat.le_of_ble_eq_true rfl) (by rw [hR]; exact Nat.le_of_ble_eq_true rfl) dX0_init_16 (fun q_1 H hP hD hS => ?_)
  have hP : va_P D vwCl [(h0, .inr (0, [.int 0, .int 0, .null, .null, .null, .null, .null, .null, .null, .null])), (q_1, .inl (cI, 5, .inl (fun _ => 0)))] H := hP
  have hD : va_D A [(h0, .inr (0, [.int 0, .int 0, .null, .null, .null, .null, .null, .null, .null, .null])), (q_1, .inl (cI, 5, .inl (fun _ => 0)))] := hD
  refine W.widen (k := 1) (n := 5) (by omega) (by omega) ?_
  refine va_putF (D := D) (ci := 0) (v := .ref q_1) (ty := (.array .int)) (C := RX0) (T := TX0) (N := 10) hx hb hts iX0 tyX0 tyX0_ok nmX0 hown hK hP hD hS 0 rfl rfl 2 (by decide) (hts (.fieldLink RX0 18 "PunchedTicket$Line" "home" "[I") (List.mem_of_getElem? (i := 7) rfl)) (fun _ h9 => h9) rfl hin rfl (by decide +kernel) rfl rfl (Nat.le_of_ble_eq_true rfl) dX0_init_18 (fun H locs hP hD hS => ?_)
  have hP : va_P D vwCl [(h0, .inr (0, [.int 0, .int 0, .ref q_1, .null, .null, .null, .null, .null, .null, .null])), (q_1, .inl (cI, 5, .inl (fun _ => 0)))] H := hP
  have hD : va_D A [(h0, .inr (0, [.int 0, .int 0, .ref q_1, .null, .null, .null, .null, .null, .null, .null])), (q_1, .inl (cI, 5, .inl (fun _ => 0)))] := hD
  refine lv_aload_n hx hb dX0_init_21 rfl (lv_at hl 0 rfl) ?_
  refine lv_iconst (v := 5) hx hb dX0_init_22 (by decide) ?_
  refine newI hx hb (hts (.arrayClass .int) (List.mem_of_getElem? (i := 6) rfl)) hK hP hD hS hA 5 (by decide) (by decide) (by decide) (by rw [hR]; exact Nat.le_of_ble_eq_true rfl) (by rw [hR]; exact Nat.le_of_ble_eq_true rfl) dX0_init_23 (fun q_2 H hP hD hS => ?_)
  have hP : va_P D vwCl [(h0, .inr (0, [.int 0, .int 0, .ref q_1, .null, .null, .null, .null, .null, .null, .null])), (q_1, .inl (cI, 5, .inl (fun _ => 0))), (q_2, .inl (cI, 5, .inl (fun _ => 0)))] H := hP
  have hD : va_D A [(h0, .inr (0, [.int 0, .int 0, .ref q_1, .null, .null, .null, .null, .null, .null, .null])), (q_1, .inl (cI, 5, .inl (fun _ => 0))), (q_2, .inl (cI, 5, .inl (fun _ => 0)))] := hD
  refine W.widen (k := 2) (n := 10) (by omega) (by omega) ?_
  refine va_putF (D := D) (ci := 0) (v := .ref q_2) (ty := (.array .int)) (C := RX0) (T := TX0) (N := 10) hx hb hts iX0 tyX0 tyX0_ok nmX0 hown hK hP hD hS 0 rfl rfl 3 (by decide) (hts (.fieldLink RX0 22 "PunchedTicket$Line" "liked" "[I") (List.mem_of_getElem? (i := 8) rfl)) (fun _ h9 => h9) rfl hin rfl (by decide +kernel) rfl rfl (Nat.le_of_ble_eq_true rfl) dX0_init_25 (fun H locs hP hD hS => ?_)
  have hP : va_P D vwCl [(h0, .inr (0, [.int 0, .int 0, .ref q_1, .ref q_2, .null, .null, .null, .null, .null, .null])), (q_1, .inl (cI, 5, .inl (fun _ => 0))), (q_2, .inl (cI, 5, .inl (fun _ => 0)))] H := hP
  have hD : va_D A [(h0, .inr (0, [.int 0, .int 0, .ref q_1, .ref q_2, .null, .null, .null, .null, .null, .null])), (q_1, .inl (cI, 5, .inl (fun _ => 0))), (q_2, .inl (cI, 5, .inl (fun _ => 0)))] := hD
  refine lv_aload_n hx hb dX0_init_28 rfl (lv_at hl 0 rfl) ?_
  refine lv_iconst (v := 5) hx hb dX0_init_29 (by decide) ?_
  refine newI hx hb (hts (.arrayClass .int) (List.mem_of_getElem? (i := 6) rfl)) hK hP hD hS hA 5 (by decide) (by decide) (by decide) (by rw [hR]; exact Nat.le_of_ble_eq_true rfl) (by rw [hR]; exact Nat.le_of_ble_eq_true rfl) dX0_init_30 (fun q_3 H hP hD hS => ?_)
  have hP : va_P D vwCl [(h0, .inr (0, [.int 0, .int 0, .ref q_1, .ref q_2, .null, .null, .null, .null, .null, .null])), (q_1, .inl (cI, 5, .inl (fun _ => 0))), (q_2, .inl (cI, 5, .inl (fun _ => 0))), (q_3, .inl (cI, 5, .inl (fun _ => 0)))] H := hP
  have hD : va_D A [(h0, .inr (0, [.int 0, .int 0, .ref q_1, .ref q_2, .null, .null, .null, .null, .null, .null])), (q_1, .inl (cI, 5, .inl (fun _ => 0))), (q_2, .inl (cI, 5, .inl (fun _ => 0))), (q_3, .inl (cI, 5, .inl (fun _ => 0)))] := hD
  refine W.widen (k := 3) (n := 15) (by omega) (by omega) ?_
  refine va_putF (D := D) (ci := 0) (v := .ref q_3) (ty := (.array .int)) (C := RX0) (T := TX0) (N := 10) hx hb hts iX0 tyX0 tyX0_ok nmX0 hown hK hP hD hS 0 rfl rfl 4 (by decide) (hts (.fieldLink RX0 25 "PunchedTicket$Line" "kind" "[I") (List.mem_of_getElem? (i := 9) rfl)) (fun _ h9 => h9) rfl hin rfl (by decide +kernel) rfl rfl (Nat.le_of_ble_eq_true rfl) dX0_init_32 (fun H locs hP hD hS => ?_)
  have hP : va_P D vwCl [(h0, .inr (0, [.int 0, .int 0, .ref q_1, .ref q_2, .ref q_3, .null, .null, .null, .null, .null])), (q_1, .inl (cI, 5, .inl (fun _ => 0))), (q_2, .inl (cI, 5, .inl (fun _ => 0))), (q_3, .inl (cI, 5, .inl (fun _ => 0)))] H := hP
  have hD : va_D A [(h0, .inr (0, [.int 0, .int 0, .ref q_1, .ref q_2, .ref q_3, .null, .null, .null, .null, .null])), (q_1, .inl (cI, 5, .inl (fun _ => 0))), (q_2, .inl (cI, 5, .inl (fun _ => 0))), (q_3, .inl (cI, 5, .inl (fun _ => 0)))] := hD
  refine lv_aload_n hx hb dX0_init_35 rfl (lv_at hl 0 rfl) ?_
  refine lv_bipush (v := 7) hx hb dX0_init_36 (by decide) ?_
  refine newI hx hb (hts (.arrayClass .int) (List.mem_of_getElem? (i := 6) rfl)) hK hP hD hS hA 7 (by decide) (by decide) (by decide) (by rw [hR]; exact Nat.le_of_ble_eq_true rfl) (by rw [hR]; exact Nat.le_of_ble_eq_true rfl) dX0_init_38 (fun q_4 H hP hD hS => ?_)
  have hP : va_P D vwCl [(h0, .inr (0, [.int 0, .int 0, .ref q_1, .ref q_2, .ref q_3, .null, .null, .null, .null, .null])), (q_1, .inl (cI, 5, .inl (fun _ => 0))), (q_2, .inl (cI, 5, .inl (fun _ => 0))), (q_3, .inl (cI, 5, .inl (fun _ => 0))), (q_4, .inl (cI, 7, .inl (fun _ => 0)))] H := hP
  have hD : va_D A [(h0, .inr (0, [.int 0, .int 0, .ref q_1, .ref q_2, .ref q_3, .null, .null, .null, .null, .null])), (q_1, .inl (cI, 5, .inl (fun _ => 0))), (q_2, .inl (cI, 5, .inl (fun _ => 0))), (q_3, .inl (cI, 5, .inl (fun _ => 0))), (q_4, .inl (cI, 7, .inl (fun _ => 0)))] := hD
  refine W.widen (k := 4) (n := 22) (by omega) (by omega) ?_
  refine va_putF (D := D) (ci := 0) (v := .ref q_4) (ty := (.array .int)) (C := RX0) (T := TX0) (N := 10) hx hb hts iX0 tyX0 tyX0_ok nmX0 hown hK hP hD hS 0 rfl rfl 5 (by decide) (hts (.fieldLink RX0 28 "PunchedTicket$Line" "forDay" "[I") (List.mem_of_getElem? (i := 10) rfl)) (fun _ h9 => h9) rfl hin rfl (by decide +kernel) rfl rfl (Nat.le_of_ble_eq_true rfl) dX0_init_40 (fun H locs hP hD hS => ?_)
  have hP : va_P D vwCl [(h0, .inr (0, [.int 0, .int 0, .ref q_1, .ref q_2, .ref q_3, .ref q_4, .null, .null, .null, .null])), (q_1, .inl (cI, 5, .inl (fun _ => 0))), (q_2, .inl (cI, 5, .inl (fun _ => 0))), (q_3, .inl (cI, 5, .inl (fun _ => 0))), (q_4, .inl (cI, 7, .inl (fun _ => 0)))] H := hP
  have hD : va_D A [(h0, .inr (0, [.int 0, .int 0, .ref q_1, .ref q_2, .ref q_3, .ref q_4, .null, .null, .null, .null])), (q_1, .inl (cI, 5, .inl (fun _ => 0))), (q_2, .inl (cI, 5, .inl (fun _ => 0))), (q_3, .inl (cI, 5, .inl (fun _ => 0))), (q_4, .inl (cI, 7, .inl (fun _ => 0)))] := hD
  refine lv_aload_n hx hb dX0_init_43 rfl (lv_at hl 0 rfl) ?_
  refine lv_bipush (v := 7) hx hb dX0_init_44 (by decide) ?_
  refine newI hx hb (hts (.arrayClass .int) (List.mem_of_getElem? (i := 6) rfl)) hK hP hD hS hA 7 (by decide) (by decide) (by decide) (by rw [hR]; exact Nat.le_of_ble_eq_true rfl) (by rw [hR]; exact Nat.le_of_ble_eq_true rfl) dX0_init_46 (fun q_5 H hP hD hS => ?_)
  have hP : va_P D vwCl [(h0, .inr (0, [.int 0, .int 0, .ref q_1, .ref q_2, .ref q_3, .ref q_4, .null, .null, .null, .null])), (q_1, .inl (cI, 5, .inl (fun _ => 0))), (q_2, .inl (cI, 5, .inl (fun _ => 0))), (q_3, .inl (cI, 5, .inl (fun _ => 0))), (q_4, .inl (cI, 7, .inl (fun _ => 0))), (q_5, .inl (cI, 7, .inl (fun _ => 0)))] H := hP
  have hD : va_D A [(h0, .inr (0, [.int 0, .int 0, .ref q_1, .ref q_2, .ref q_3, .ref q_4, .null, .null, .null, .null])), (q_1, .inl (cI, 5, .inl (fun _ => 0))), (q_2, .inl (cI, 5, .inl (fun _ => 0))), (q_3, .inl (cI, 5, .inl (fun _ => 0))), (q_4, .inl (cI, 7, .inl (fun _ => 0))), (q_5, .inl (cI, 7, .inl (fun _ => 0)))] := hD
  refine W.widen (k := 5) (n := 29) (by omega) (by omega) ?_
  refine va_putF (D := D) (ci := 0) (v := .ref q_5) (ty := (.array .int)) (C := RX0) (T := TX0) (N := 10) hx hb hts iX0 tyX0 tyX0_ok nmX0 hown hK hP hD hS 0 rfl rfl 6 (by decide) (hts (.fieldLink RX0 31 "PunchedTicket$Line" "from" "[I") (List.mem_of_getElem? (i := 11) rfl)) (fun _ h9 => h9) rfl hin rfl (by decide +kernel) rfl rfl (Nat.le_of_ble_eq_true rfl) dX0_init_48 (fun H locs hP hD hS => ?_)
  have hP : va_P D vwCl [(h0, .inr (0, [.int 0, .int 0, .ref q_1, .ref q_2, .ref q_3, .ref q_4, .ref q_5, .null, .null, .null])), (q_1, .inl (cI, 5, .inl (fun _ => 0))), (q_2, .inl (cI, 5, .inl (fun _ => 0))), (q_3, .inl (cI, 5, .inl (fun _ => 0))), (q_4, .inl (cI, 7, .inl (fun _ => 0))), (q_5, .inl (cI, 7, .inl (fun _ => 0)))] H := hP
  have hD : va_D A [(h0, .inr (0, [.int 0, .int 0, .ref q_1, .ref q_2, .ref q_3, .ref q_4, .ref q_5, .null, .null, .null])), (q_1, .inl (cI, 5, .inl (fun _ => 0))), (q_2, .inl (cI, 5, .inl (fun _ => 0))), (q_3, .inl (cI, 5, .inl (fun _ => 0))), (q_4, .inl (cI, 7, .inl (fun _ => 0))), (q_5, .inl (cI, 7, .inl (fun _ => 0)))] := hD
  refine lv_aload_n hx hb dX0_init_51 rfl (lv_at hl 0 rfl) ?_
  refine lv_bipush (v := 7) hx hb dX0_init_52 (by decide) ?_
  refine newI hx hb (hts (.arrayClass .int) (List.mem_of_getElem? (i := 6) rfl)) hK hP hD hS hA 7 (by decide) (by decide) (by decide) (by rw [hR]; exact Nat.le_of_ble_eq_true rfl) (by rw [hR]; exact Nat.le_of_ble_eq_true rfl) dX0_init_54 (fun q_6 H hP hD hS => ?_)
  have hP : va_P D vwCl [(h0, .inr (0, [.int 0, .int 0, .ref q_1, .ref q_2, .ref q_3, .ref q_4, .ref q_5, .null, .null, .null])), (q_1, .inl (cI, 5, .inl (fun _ => 0))), (q_2, .inl (cI, 5, .inl (fun _ => 0))), (q_3, .inl (cI, 5, .inl (fun _ => 0))), (q_4, .inl (cI, 7, .inl (fun _ => 0))), (q_5, .inl (cI, 7, .inl (fun _ => 0))), (q_6, .inl (cI, 7, .inl (fun _ => 0)))] H := hP
  have hD : va_D A [(h0, .inr (0, [.int 0, .int 0, .ref q_1, .ref q_2, .ref q_3, .ref q_4, .ref q_5, .null, .null, .null])), (q_1, .inl (cI, 5, .inl (fun _ => 0))), (q_2, .inl (cI, 5, .inl (fun _ => 0))), (q_3, .inl (cI, 5, .inl (fun _ => 0))), (q_4, .inl (cI, 7, .inl (fun _ => 0))), (q_5, .inl (cI, 7, .inl (fun _ => 0))), (q_6, .inl (cI, 7, .inl (fun _ => 0)))] := hD
  refine W.widen (k := 6) (n := 36) (by omega) (by omega) ?_
  refine va_putF (D := D) (ci := 0) (v := .ref q_6) (ty := (.array .int)) (C := RX0) (T := TX0) (N := 10) hx hb hts iX0 tyX0 tyX0_ok nmX0 hown hK hP hD hS 0 rfl rfl 7 (by decide) (hts (.fieldLink RX0 34 "PunchedTicket$Line" "to" "[I") (List.mem_of_getElem? (i := 12) rfl)) (fun _ h9 => h9) rfl hin rfl (by decide +kernel) rfl rfl (Nat.le_of_ble_eq_true rfl) dX0_init_56 (fun H locs hP hD hS => ?_)
  have hP : va_P D vwCl [(h0, .inr (0, [.int 0, .int 0, .ref q_1, .ref q_2, .ref q_3, .ref q_4, .ref q_5, .ref q_6, .null, .null])), (q_1, .inl (cI, 5, .inl (fun _ => 0))), (q_2, .inl (cI, 5, .inl (fun _ => 0))), (q_3, .inl (cI, 5, .inl (fun _ => 0))), (q_4, .inl (cI, 7, .inl (fun _ => 0))), (q_5, .inl (cI, 7, .inl (fun _ => 0))), (q_6, .inl (cI, 7, .inl (fun _ => 0)))] H := hP
  have hD : va_D A [(h0, .inr (0, [.int 0, .int 0, .ref q_1, .ref q_2, .ref q_3, .ref q_4, .ref q_5, .ref q_6, .null, .null])), (q_1, .inl (cI, 5, .inl (fun _ => 0))), (q_2, .inl (cI, 5, .inl (fun _ => 0))), (q_3, .inl (cI, 5, .inl (fun _ => 0))), (q_4, .inl (cI, 7, .inl (fun _ => 0))), (q_5, .inl (cI, 7, .inl (fun _ => 0))), (q_6, .inl (cI, 7, .inl (fun _ => 0)))] := hD
  refine lv_aload_n hx hb dX0_init_59 rfl (lv_at hl 0 rfl) ?_
  refine lv_bipush (v := 7) hx hb dX0_init_60 (by decide) ?_
  refine newI hx hb (hts (.arrayClass .int) (List.mem_of_getElem? (i := 6) rfl)) hK hP hD hS hA 7 (by decide) (by decide) (by decide) (by rw [hR]; exact Nat.le_of_ble_eq_true rfl) (by rw [hR]; exact Nat.le_of_ble_eq_true rfl) dX0_init_62 (fun q_7 H hP hD hS => ?_)
  have hP : va_P D vwCl [(h0, .inr (0, [.int 0, .int 0, .ref q_1, .ref q_2, .ref q_3, .ref q_4, .ref q_5, .ref q_6, .null, .null])), (q_1, .inl (cI, 5, .inl (fun _ => 0))), (q_2, .inl (cI, 5, .inl (fun _ => 0))), (q_3, .inl (cI, 5, .inl (fun _ => 0))), (q_4, .inl (cI, 7, .inl (fun _ => 0))), (q_5, .inl (cI, 7, .inl (fun _ => 0))), (q_6, .inl (cI, 7, .inl (fun _ => 0))), (q_7, .inl (cI, 7, .inl (fun _ => 0)))] H := hP
  have hD : va_D A [(h0, .inr (0, [.int 0, .int 0, .ref q_1, .ref q_2, .ref q_3, .ref q_4, .ref q_5, .ref q_6, .null, .null])), (q_1, .inl (cI, 5, .inl (fun _ => 0))), (q_2, .inl (cI, 5, .inl (fun _ => 0))), (q_3, .inl (cI, 5, .inl (fun _ => 0))), (q_4, .inl (cI, 7, .inl (fun _ => 0))), (q_5, .inl (cI, 7, .inl (fun _ => 0))), (q_6, .inl (cI, 7, .inl (fun _ => 0))), (q_7, .inl (cI, 7, .inl (fun _ => 0)))] := hD
  refine W.widen (k := 7) (n := 43) (by omega) (by omega) ?_
  refine va_putF (D := D) (ci := 0) (v := .ref q_7) (ty := (.array .int)) (C := RX0) (T := TX0) (N := 10) hx hb hts iX0 tyX0 tyX0_ok nmX0 hown hK hP hD hS 0 rfl rfl 8 (by decide) (hts (.fieldLink RX0 37 "PunchedTicket$Line" "seat" "[I") (List.mem_of_getElem? (i := 13) rfl)) (fun _ h9 => h9) rfl hin rfl (by decide +kernel) rfl rfl (Nat.le_of_ble_eq_true rfl) dX0_init_64 (fun H locs hP hD hS => ?_)
  have hP : va_P D vwCl [(h0, .inr (0, [.int 0, .int 0, .ref q_1, .ref q_2, .ref q_3, .ref q_4, .ref q_5, .ref q_6, .ref q_7, .null])), (q_1, .inl (cI, 5, .inl (fun _ => 0))), (q_2, .inl (cI, 5, .inl (fun _ => 0))), (q_3, .inl (cI, 5, .inl (fun _ => 0))), (q_4, .inl (cI, 7, .inl (fun _ => 0))), (q_5, .inl (cI, 7, .inl (fun _ => 0))), (q_6, .inl (cI, 7, .inl (fun _ => 0))), (q_7, .inl (cI, 7, .inl (fun _ => 0)))] H := hP
  have hD : va_D A [(h0, .inr (0, [.int 0, .int 0, .ref q_1, .ref q_2, .ref q_3, .ref q_4, .ref q_5, .ref q_6, .ref q_7, .null])), (q_1, .inl (cI, 5, .inl (fun _ => 0))), (q_2, .inl (cI, 5, .inl (fun _ => 0))), (q_3, .inl (cI, 5, .inl (fun _ => 0))), (q_4, .inl (cI, 7, .inl (fun _ => 0))), (q_5, .inl (cI, 7, .inl (fun _ => 0))), (q_6, .inl (cI, 7, .inl (fun _ => 0))), (q_7, .inl (cI, 7, .inl (fun _ => 0)))] := hD
  refine lv_aload_n hx hb dX0_init_67 rfl (lv_at hl 0 rfl) ?_
  refine lv_bipush (v := 7) hx hb dX0_init_68 (by decide) ?_
  refine newI hx hb (hts (.arrayClass .int) (List.mem_of_getElem? (i := 6) rfl)) hK hP hD hS hA 7 (by decide) (by decide) (by decide) (by rw [hR]; exact Nat.le_of_ble_eq_true rfl) (by rw [hR]; exact Nat.le_of_ble_eq_true rfl) dX0_init_70 (fun q_8 H hP hD hS => ?_)
  have hP : va_P D vwCl [(h0, .inr (0, [.int 0, .int 0, .ref q_1, .ref q_2, .ref q_3, .ref q_4, .ref q_5, .ref q_6, .ref q_7, .null])), (q_1, .inl (cI, 5, .inl (fun _ => 0))), (q_2, .inl (cI, 5, .inl (fun _ => 0))), (q_3, .inl (cI, 5, .inl (fun _ => 0))), (q_4, .inl (cI, 7, .inl (fun _ => 0))), (q_5, .inl (cI, 7, .inl (fun _ => 0))), (q_6, .inl (cI, 7, .inl (fun _ => 0))), (q_7, .inl (cI, 7, .inl (fun _ => 0))), (q_8, .inl (cI, 7, .inl (fun _ => 0)))] H := hP
  have hD : va_D A [(h0, .inr (0, [.int 0, .int 0, .ref q_1, .ref q_2, .ref q_3, .ref q_4, .ref q_5, .ref q_6, .ref q_7, .null])), (q_1, .inl (cI, 5, .inl (fun _ => 0))), (q_2, .inl (cI, 5, .inl (fun _ => 0))), (q_3, .inl (cI, 5, .inl (fun _ => 0))), (q_4, .inl (cI, 7, .inl (fun _ => 0))), (q_5, .inl (cI, 7, .inl (fun _ => 0))), (q_6, .inl (cI, 7, .inl (fun _ => 0))), (q_7, .inl (cI, 7, .inl (fun _ => 0))), (q_8, .inl (cI, 7, .inl (fun _ => 0)))] := hD
  refine W.widen (k := 8) (n := 50) (by omega) (by omega) ?_
  refine va_putF (D := D) (ci := 0) (v := .ref q_8) (ty := (.array .int)) (C := RX0) (T := TX0) (N := 10) hx hb hts iX0 tyX0 tyX0_ok nmX0 hown hK hP hD hS 0 rfl rfl 9 (by decide) (hts (.fieldLink RX0 40 "PunchedTicket$Line" "holder" "[I") (List.mem_of_getElem? (i := 14) rfl)) (fun _ h9 => h9) rfl hin rfl (by decide +kernel) rfl rfl (Nat.le_of_ble_eq_true rfl) dX0_init_72 (fun H locs hP hD hS => ?_)
  have hP : va_P D vwCl [(h0, .inr (0, [.int 0, .int 0, .ref q_1, .ref q_2, .ref q_3, .ref q_4, .ref q_5, .ref q_6, .ref q_7, .ref q_8])), (q_1, .inl (cI, 5, .inl (fun _ => 0))), (q_2, .inl (cI, 5, .inl (fun _ => 0))), (q_3, .inl (cI, 5, .inl (fun _ => 0))), (q_4, .inl (cI, 7, .inl (fun _ => 0))), (q_5, .inl (cI, 7, .inl (fun _ => 0))), (q_6, .inl (cI, 7, .inl (fun _ => 0))), (q_7, .inl (cI, 7, .inl (fun _ => 0))), (q_8, .inl (cI, 7, .inl (fun _ => 0)))] H := hP
  have hD : va_D A [(h0, .inr (0, [.int 0, .int 0, .ref q_1, .ref q_2, .ref q_3, .ref q_4, .ref q_5, .ref q_6, .ref q_7, .ref q_8])), (q_1, .inl (cI, 5, .inl (fun _ => 0))), (q_2, .inl (cI, 5, .inl (fun _ => 0))), (q_3, .inl (cI, 5, .inl (fun _ => 0))), (q_4, .inl (cI, 7, .inl (fun _ => 0))), (q_5, .inl (cI, 7, .inl (fun _ => 0))), (q_6, .inl (cI, 7, .inl (fun _ => 0))), (q_7, .inl (cI, 7, .inl (fun _ => 0))), (q_8, .inl (cI, 7, .inl (fun _ => 0)))] := hD
  exact ret_v (post := (fun (u : Nat × Nat × Nat × Nat × Nat × Nat × Nat × Nat) => True)) (W1 := (fun u => [(h0, .inr (0, [.int 0, .int 0, .ref u.1, .ref u.2.1, .ref u.2.2.1, .ref u.2.2.2.1, .ref u.2.2.2.2.1, .ref u.2.2.2.2.2.1, .ref u.2.2.2.2.2.2.1, .ref u.2.2.2.2.2.2.2])), (u.1, .inl (cI, 5, .inl (fun _ => 0))), (u.2.1, .inl (cI, 5, .inl (fun _ => 0))), (u.2.2.1, .inl (cI, 5, .inl (fun _ => 0))), (u.2.2.2.1, .inl (cI, 7, .inl (fun _ => 0))), (u.2.2.2.2.1, .inl (cI, 7, .inl (fun _ => 0))), (u.2.2.2.2.2.1, .inl (cI, 7, .inl (fun _ => 0))), (u.2.2.2.2.2.2.1, .inl (cI, 7, .inl (fun _ => 0))), (u.2.2.2.2.2.2.2, .inl (cI, 7, .inl (fun _ => 0)))])) (q_1, q_2, q_3, q_4, q_5, q_6, q_7, q_8) hx hb hr hlocks hQ hK hP hD hS ⟨by decide, by decide⟩ dX0_init_75 trivial

set_option maxHeartbeats 600000 in
set_option maxRecDepth 100000 in
theorem c_X1_init (l : Launch) (D : va_G) (cI cZ cM : ClassId) (h0 : Nat) (ln : Nat) (sz : Nat)  : Cv l yX1_init wsX1_init ({ frames := 1, cells := 3, slots := 19, locals := 12 } : Room) D cI cZ cM [.ref h0, .ref ln] [(h0, .inr (1, [.null, .int 0, .int 0, .int 0, .int 0, .null, .null, .null]))] sz (fun (u : Nat × Nat × Nat) => True) (fun u => [(h0, .inr (1, [.ref ln, .int 0, .int 0, .int 0, .int 0, .ref u.1, .ref u.2.1, .ref u.2.2])), (u.1, .inl (cI, 5, .inl (fun _ => 0))), (u.2.1, .inl (cI, 7, .inl (fun _ => 0))), (u.2.2, .inl (cI, 7, .inl (fun _ => 0)))]) 3 19 := by
  refine begins (l := l) (y := yX1_init) (ws := wsX1_init) (av := [.ref h0, .ref ln]) (Qc := fun A => va_Qv (fun (u : Nat × Nat × Nat) => True) (fun u => Wd D cI cZ cM A ((fun u => [(h0, .inr (1, [.ref ln, .int 0, .int 0, .int 0, .int 0, .ref u.1, .ref u.2.1, .ref u.2.2])), (u.1, .inl (cI, 5, .inl (fun _ => 0))), (u.2.1, .inl (cI, 7, .inl (fun _ => 0))), (u.2.2, .inl (cI, 7, .inl (fun _ => 0)))]) u)) A) cX1_init 2 none (by decide) rfl (Nat.le_of_ble_eq_true rfl) ?_
  intro p e s m args below meth c R Q A ls hBd hR hQ hA hS hK hP hD hl
  obtain ⟨hx, hb, hr, hts, hown, hlocks, hin, hml⟩ := hBd
  have hl : lv_has ls 2 [(0, .ref h0), (1, .ref ln)] := hl
  have iX1 : ∀ w ∈ wsX10, w ∈ wsX1_init := fun _ h => List.mem_cons_of_mem _ (List.mem_append_right _ h)
  refine lv_aload_n hx hb dX1_init_0 rfl (lv_at hl 0 rfl) ?_
  refine W.objInit hx hb hown (hts (.methodLink RX1 3 objectInit) (List.mem_of_getElem? (i := 1) rfl)) (hts (.instanceMethod objectInit) (List.mem_of_getElem? (i := 2) rfl)) (hts (.code objectInit ⟨#[0xb1]⟩ 1 none) (List.mem_of_getElem? (i := 3) rfl)) rfl (by rw [hml]; exact hl.1) rfl dX1_init_1 (by rw [hR]; exact Nat.le_of_ble_eq_true rfl) (by rw [hR]; exact Nat.le_of_ble_eq_true rfl) ?_
  refine W.eq (g2 := F0 m 4 ls []) rfl ?_
  refine lv_aload_n hx hb dX1_init_4 rfl (lv_at hl 0 rfl) ?_
  refine lv_iconst (v := 0) hx hb dX1_init_5 (by decide) ?_
  refine va_put (D := D) (ci := 1) (v := .int 0) (ty := .int) (C := RX1) (T := TX1) (N := 8) hx hb hts iX1 tyX1 tyX1_ok nmX1 hown hK hP hD hS 0 rfl rfl 1 (by decide) (hts (.fieldLink RX1 9 "PunchedTicket$Moment" "day" "I") (List.mem_of_getElem? (i := 4) rfl)) (fun _ h9 => h9) rfl (by decide +kernel) rfl rfl (Nat.le_of_ble_eq_true rfl) dX1_init_6 (fun H locs hP hD hS => ?_)
  have hP : va_P D vwCl [(h0, .inr (1, [.null, .int 0, .int 0, .int 0, .int 0, .null, .null, .null]))] H := hP
  have hD : va_D A [(h0, .inr (1, [.null, .int 0, .int 0, .int 0, .int 0, .null, .null, .null]))] := hD
  refine lv_aload_n hx hb dX1_init_9 rfl (lv_at hl 0 rfl) ?_
  refine lv_iconst (v := 0) hx hb dX1_init_10 (by decide) ?_
  refine va_put (D := D) (ci := 1) (v := .int 0) (ty := .int) (C := RX1) (T := TX1) (N := 8) hx hb hts iX1 tyX1 tyX1_ok nmX1 hown hK hP hD hS 0 rfl rfl 2 (by decide) (hts (.fieldLink RX1 15 "PunchedTicket$Moment" "tickets" "I") (List.mem_of_getElem? (i := 5) rfl)) (fun _ h9 => h9) rfl (by decide +kernel) rfl rfl (Nat.le_of_ble_eq_true rfl) dX1_init_11 (fun H locs hP hD hS => ?_)
  have hP : va_P D vwCl [(h0, .inr (1, [.null, .int 0, .int 0, .int 0, .int 0, .null, .null, .null]))] H := hP
  have hD : va_D A [(h0, .inr (1, [.null, .int 0, .int 0, .int 0, .int 0, .null, .null, .null]))] := hD
  refine lv_aload_n hx hb dX1_init_14 rfl (lv_at hl 0 rfl) ?_
  refine lv_iconst (v := 0) hx hb dX1_init_15 (by decide) ?_
  refine va_put (D := D) (ci := 1) (v := .int 0) (ty := .int) (C := RX1) (T := TX1) (N := 8) hx hb hts iX1 tyX1 tyX1_ok nmX1 hown hK hP hD hS 0 rfl rfl 3 (by decide) (hts (.fieldLink RX1 18 "PunchedTicket$Moment" "returns" "I") (List.mem_of_getElem? (i := 6) rfl)) (fun _ h9 => h9) rfl (by decide +kernel) rfl rfl (Nat.le_of_ble_eq_true rfl) dX1_init_16 (fun H locs hP hD hS => ?_)
  have hP : va_P D vwCl [(h0, .inr (1, [.null, .int 0, .int 0, .int 0, .int 0, .null, .null, .null]))] H := hP
  have hD : va_D A [(h0, .inr (1, [.null, .int 0, .int 0, .int 0, .int 0, .null, .null, .null]))] := hD
  refine lv_aload_n hx hb dX1_init_19 rfl (lv_at hl 0 rfl) ?_
  refine lv_iconst (v := 0) hx hb dX1_init_20 (by decide) ?_
  refine va_put (D := D) (ci := 1) (v := .int 0) (ty := .int) (C := RX1) (T := TX1) (N := 8) hx hb hts iX1 tyX1 tyX1_ok nmX1 hown hK hP hD hS 0 rfl rfl 4 (by decide) (hts (.fieldLink RX1 21 "PunchedTicket$Moment" "gone" "I") (List.mem_of_getElem? (i := 7) rfl)) (fun _ h9 => h9) rfl (by decide +kernel) rfl rfl (Nat.le_of_ble_eq_true rfl) dX1_init_21 (fun H locs hP hD hS => ?_)
  have hP : va_P D vwCl [(h0, .inr (1, [.null, .int 0, .int 0, .int 0, .int 0, .null, .null, .null]))] H := hP
  have hD : va_D A [(h0, .inr (1, [.null, .int 0, .int 0, .int 0, .int 0, .null, .null, .null]))] := hD
  refine lv_aload_n hx hb dX1_init_24 rfl (lv_at hl 0 rfl) ?_
  refine lv_iconst (v := 5) hx hb dX1_init_25 (by decide) ?_
  refine newI hx hb (hts (.arrayClass .int) (List.mem_of_getElem? (i := 8) rfl)) hK hP hD hS hA 5 (by decide) (by decide) (by decide) (by rw [hR]; exact Nat.le_of_ble_eq_true rfl) (by rw [hR]; exact Nat.le_of_ble_eq_true rfl) dX1_init_26 (fun q_1 H hP hD hS => ?_)
  have hP : va_P D vwCl [(h0, .inr (1, [.null, .int 0, .int 0, .int 0, .int 0, .null, .null, .null])), (q_1, .inl (cI, 5, .inl (fun _ => 0)))] H := hP
  have hD : va_D A [(h0, .inr (1, [.null, .int 0, .int 0, .int 0, .int 0, .null, .null, .null])), (q_1, .inl (cI, 5, .inl (fun _ => 0)))] := hD
  refine W.widen (k := 1) (n := 5) (by omega) (by omega) ?_
  refine va_putF (D := D) (ci := 1) (v := .ref q_1) (ty := (.array .int)) (C := RX1) (T := TX1) (N := 8) hx hb hts iX1 tyX1 tyX1_ok nmX1 hown hK hP hD hS 0 rfl rfl 5 (by decide) (hts (.fieldLink RX1 24 "PunchedTicket$Moment" "at" "[I") (List.mem_of_getElem? (i := 9) rfl)) (fun _ h9 => h9) rfl hin rfl (by decide +kernel) rfl rfl (Nat.le_of_ble_eq_true rfl) dX1_init_28 (fun H locs hP hD hS => ?_)
  have hP : va_P D vwCl [(h0, .inr (1, [.null, .int 0, .int 0, .int 0, .int 0, .ref q_1, .null, .null])), (q_1, .inl (cI, 5, .inl (fun _ => 0)))] H := hP
  have hD : va_D A [(h0, .inr (1, [.null, .int 0, .int 0, .int 0, .int 0, .ref q_1, .null, .null])), (q_1, .inl (cI, 5, .inl (fun _ => 0)))] := hD
  refine lv_aload_n hx hb dX1_init_31 rfl (lv_at hl 0 rfl) ?_
  refine lv_bipush (v := 7) hx hb dX1_init_32 (by decide) ?_
  refine newI hx hb (hts (.arrayClass .int) (List.mem_of_getElem? (i := 8) rfl)) hK hP hD hS hA 7 (by decide) (by decide) (by decide) (by rw [hR]; exact Nat.le_of_ble_eq_true rfl) (by rw [hR]; exact Nat.le_of_ble_eq_true rfl) dX1_init_34 (fun q_2 H hP hD hS => ?_)
  have hP : va_P D vwCl [(h0, .inr (1, [.null, .int 0, .int 0, .int 0, .int 0, .ref q_1, .null, .null])), (q_1, .inl (cI, 5, .inl (fun _ => 0))), (q_2, .inl (cI, 7, .inl (fun _ => 0)))] H := hP
  have hD : va_D A [(h0, .inr (1, [.null, .int 0, .int 0, .int 0, .int 0, .ref q_1, .null, .null])), (q_1, .inl (cI, 5, .inl (fun _ => 0))), (q_2, .inl (cI, 7, .inl (fun _ => 0)))] := hD
  refine W.widen (k := 2) (n := 12) (by omega) (by omega) ?_
  refine va_putF (D := D) (ci := 1) (v := .ref q_2) (ty := (.array .int)) (C := RX1) (T := TX1) (N := 8) hx hb hts iX1 tyX1 tyX1_ok nmX1 hown hK hP hD hS 0 rfl rfl 6 (by decide) (hts (.fieldLink RX1 28 "PunchedTicket$Moment" "forDay" "[I") (List.mem_of_getElem? (i := 10) rfl)) (fun _ h9 => h9) rfl hin rfl (by decide +kernel) rfl rfl (Nat.le_of_ble_eq_true rfl) dX1_init_36 (fun H locs hP hD hS => ?_)
  have hP : va_P D vwCl [(h0, .inr (1, [.null, .int 0, .int 0, .int 0, .int 0, .ref q_1, .ref q_2, .null])), (q_1, .inl (cI, 5, .inl (fun _ => 0))), (q_2, .inl (cI, 7, .inl (fun _ => 0)))] H := hP
  have hD : va_D A [(h0, .inr (1, [.null, .int 0, .int 0, .int 0, .int 0, .ref q_1, .ref q_2, .null])), (q_1, .inl (cI, 5, .inl (fun _ => 0))), (q_2, .inl (cI, 7, .inl (fun _ => 0)))] := hD
  refine lv_aload_n hx hb dX1_init_39 rfl (lv_at hl 0 rfl) ?_
  refine lv_bipush (v := 7) hx hb dX1_init_40 (by decide) ?_
  refine newI hx hb (hts (.arrayClass .int) (List.mem_of_getElem? (i := 8) rfl)) hK hP hD hS hA 7 (by decide) (by decide) (by decide) (by rw [hR]; exact Nat.le_of_ble_eq_true rfl) (by rw [hR]; exact Nat.le_of_ble_eq_true rfl) dX1_init_42 (fun q_3 H hP hD hS => ?_)
  have hP : va_P D vwCl [(h0, .inr (1, [.null, .int 0, .int 0, .int 0, .int 0, .ref q_1, .ref q_2, .null])), (q_1, .inl (cI, 5, .inl (fun _ => 0))), (q_2, .inl (cI, 7, .inl (fun _ => 0))), (q_3, .inl (cI, 7, .inl (fun _ => 0)))] H := hP
  have hD : va_D A [(h0, .inr (1, [.null, .int 0, .int 0, .int 0, .int 0, .ref q_1, .ref q_2, .null])), (q_1, .inl (cI, 5, .inl (fun _ => 0))), (q_2, .inl (cI, 7, .inl (fun _ => 0))), (q_3, .inl (cI, 7, .inl (fun _ => 0)))] := hD
  refine W.widen (k := 3) (n := 19) (by omega) (by omega) ?_
  refine va_putF (D := D) (ci := 1) (v := .ref q_3) (ty := (.array .int)) (C := RX1) (T := TX1) (N := 8) hx hb hts iX1 tyX1 tyX1_ok nmX1 hown hK hP hD hS 0 rfl rfl 7 (by decide) (hts (.fieldLink RX1 31 "PunchedTicket$Moment" "holder" "[I") (List.mem_of_getElem? (i := 11) rfl)) (fun _ h9 => h9) rfl hin rfl (by decide +kernel) rfl rfl (Nat.le_of_ble_eq_true rfl) dX1_init_44 (fun H locs hP hD hS => ?_)
  have hP : va_P D vwCl [(h0, .inr (1, [.null, .int 0, .int 0, .int 0, .int 0, .ref q_1, .ref q_2, .ref q_3])), (q_1, .inl (cI, 5, .inl (fun _ => 0))), (q_2, .inl (cI, 7, .inl (fun _ => 0))), (q_3, .inl (cI, 7, .inl (fun _ => 0)))] H := hP
  have hD : va_D A [(h0, .inr (1, [.null, .int 0, .int 0, .int 0, .int 0, .ref q_1, .ref q_2, .ref q_3])), (q_1, .inl (cI, 5, .inl (fun _ => 0))), (q_2, .inl (cI, 7, .inl (fun _ => 0))), (q_3, .inl (cI, 7, .inl (fun _ => 0)))] := hD
  refine lv_aload_n hx hb dX1_init_47 rfl (lv_at hl 0 rfl) ?_
  refine lv_aload_n hx hb dX1_init_48 rfl (lv_at hl 1 rfl) ?_
  refine va_putF (D := D) (ci := 1) (v := .ref ln) (ty := (.object "PunchedTicket$Line")) (C := RX1) (T := TX1) (N := 8) hx hb hts iX1 tyX1 tyX1_ok nmX1 hown hK hP hD hS 0 rfl rfl 0 (by decide) (hts (.fieldLink RX1 34 "PunchedTicket$Moment" "line" "LPunchedTicket$Line;") (List.mem_of_getElem? (i := 12) rfl)) (fun _ h9 => h9) rfl hin rfl (by decide +kernel) rfl rfl (Nat.le_of_ble_eq_true rfl) dX1_init_49 (fun H locs hP hD hS => ?_)
  have hP : va_P D vwCl [(h0, .inr (1, [.ref ln, .int 0, .int 0, .int 0, .int 0, .ref q_1, .ref q_2, .ref q_3])), (q_1, .inl (cI, 5, .inl (fun _ => 0))), (q_2, .inl (cI, 7, .inl (fun _ => 0))), (q_3, .inl (cI, 7, .inl (fun _ => 0)))] H := hP
  have hD : va_D A [(h0, .inr (1, [.ref ln, .int 0, .int 0, .int 0, .int 0, .ref q_1, .ref q_2, .ref q_3])), (q_1, .inl (cI, 5, .inl (fun _ => 0))), (q_2, .inl (cI, 7, .inl (fun _ => 0))), (q_3, .inl (cI, 7, .inl (fun _ => 0)))] := hD
  exact ret_v (post := (fun (u : Nat × Nat × Nat) => True)) (W1 := (fun u => [(h0, .inr (1, [.ref ln, .int 0, .int 0, .int 0, .int 0, .ref u.1, .ref u.2.1, .ref u.2.2])), (u.1, .inl (cI, 5, .inl (fun _ => 0))), (u.2.1, .inl (cI, 7, .inl (fun _ => 0))), (u.2.2, .inl (cI, 7, .inl (fun _ => 0)))])) (q_1, q_2, q_3) hx hb hr hlocks hQ hK hP hD hS ⟨by decide, by decide⟩ dX1_init_52 trivial

set_option maxHeartbeats 600000 in
set_option maxRecDepth 100000 in
theorem c_X2_init (l : Launch) (D : va_G) (cI cZ cM : ClassId) (h0 : Nat) (ln : Nat) (sz : Nat)  : Cv l yX2_init wsX2_init ({ frames := 2, cells := 5, slots := 32, locals := 33 } : Room) D cI cZ cM [.ref h0, .ref ln] [(h0, .inr (2, [.null, .null, .null]))] sz (fun (u : Nat × Nat × Nat × Nat × Nat) => True) (fun u => [(h0, .inr (2, [.ref ln, .ref u.1, .ref u.2.1])), (u.1, .inr (1, [.ref ln, .int 0, .int 0, .int 0, .int 0, .ref u.2.2.1, .ref u.2.2.2.1, .ref u.2.2.2.2])), (u.2.2.1, .inl (cI, 5, .inl (fun _ => 0))), (u.2.2.2.1, .inl (cI, 7, .inl (fun _ => 0))), (u.2.2.2.2, .inl (cI, 7, .inl (fun _ => 0))), (u.2.1, .inl (cI, 5, .inl (fun _ => 0)))]) 5 32 := by
  refine begins (l := l) (y := yX2_init) (ws := wsX2_init) (av := [.ref h0, .ref ln]) (Qc := fun A => va_Qv (fun (u : Nat × Nat × Nat × Nat × Nat) => True) (fun u => Wd D cI cZ cM A ((fun u => [(h0, .inr (2, [.ref ln, .ref u.1, .ref u.2.1])), (u.1, .inr (1, [.ref ln, .int 0, .int 0, .int 0, .int 0, .ref u.2.2.1, .ref u.2.2.2.1, .ref u.2.2.2.2])), (u.2.2.1, .inl (cI, 5, .inl (fun _ => 0))), (u.2.2.2.1, .inl (cI, 7, .inl (fun _ => 0))), (u.2.2.2.2, .inl (cI, 7, .inl (fun _ => 0))), (u.2.1, .inl (cI, 5, .inl (fun _ => 0)))]) u)) A) cX2_init 2 none (by decide) rfl (Nat.le_of_ble_eq_true rfl) ?_
  intro p e s m args below meth c R Q A ls hBd hR hQ hA hS hK hP hD hl
  obtain ⟨hx, hb, hr, hts, hown, hlocks, hin, hml⟩ := hBd
  have hl : lv_has ls 2 [(0, .ref h0), (1, .ref ln)] := hl
  have iX2 : ∀ w ∈ wsX20, w ∈ wsX2_init := fun _ h => List.mem_cons_of_mem _ (List.mem_append_left _ (List.mem_append_right _ h))
  have iX1 : ∀ w ∈ wsX10, w ∈ wsX2_init := fun _ h => List.mem_cons_of_mem _ (List.mem_append_right _ h)
  refine lv_aload_n hx hb dX2_init_0 rfl (lv_at hl 0 rfl) ?_
  refine W.objInit hx hb hown (hts (.methodLink RX2 3 objectInit) (List.mem_of_getElem? (i := 1) rfl)) (hts (.instanceMethod objectInit) (List.mem_of_getElem? (i := 2) rfl)) (hts (.code objectInit ⟨#[0xb1]⟩ 1 none) (List.mem_of_getElem? (i := 3) rfl)) rfl (by rw [hml]; exact hl.1) rfl dX2_init_1 (by rw [hR]; exact Nat.le_of_ble_eq_true rfl) (by rw [hR]; exact Nat.le_of_ble_eq_true rfl) ?_
  refine W.eq (g2 := F0 m 4 ls []) rfl ?_
  refine lv_aload_n hx hb dX2_init_4 rfl (lv_at hl 0 rfl) ?_
  refine lv_iconst (v := 5) hx hb dX2_init_5 (by decide) ?_
  refine newI hx hb (hts (.arrayClass .int) (List.mem_of_getElem? (i := 4) rfl)) hK hP hD hS hA 5 (by decide) (by decide) (by decide) (by rw [hR]; exact Nat.le_of_ble_eq_true rfl) (by rw [hR]; exact Nat.le_of_ble_eq_true rfl) dX2_init_6 (fun q_1 H hP hD hS => ?_)
  have hP : va_P D vwCl [(h0, .inr (2, [.null, .null, .null])), (q_1, .inl (cI, 5, .inl (fun _ => 0)))] H := hP
  have hD : va_D A [(h0, .inr (2, [.null, .null, .null])), (q_1, .inl (cI, 5, .inl (fun _ => 0)))] := hD
  refine W.widen (k := 1) (n := 5) (by omega) (by omega) ?_
  refine va_putF (D := D) (ci := 2) (v := .ref q_1) (ty := (.array .int)) (C := RX2) (T := TX2) (N := 3) hx hb hts iX2 tyX2 tyX2_ok nmX2 hown hK hP hD hS 0 rfl rfl 2 (by decide) (hts (.fieldLink RX2 9 "PunchedTicket$Trial" "rides" "[I") (List.mem_of_getElem? (i := 5) rfl)) (fun _ h9 => h9) rfl hin rfl (by decide +kernel) rfl rfl (Nat.le_of_ble_eq_true rfl) dX2_init_8 (fun H locs hP hD hS => ?_)
  have hP : va_P D vwCl [(h0, .inr (2, [.null, .null, .ref q_1])), (q_1, .inl (cI, 5, .inl (fun _ => 0)))] H := hP
  have hD : va_D A [(h0, .inr (2, [.null, .null, .ref q_1])), (q_1, .inl (cI, 5, .inl (fun _ => 0)))] := hD
  refine lv_aload_n hx hb dX2_init_11 rfl (lv_at hl 0 rfl) ?_
  refine lv_aload_n hx hb dX2_init_12 rfl (lv_at hl 1 rfl) ?_
  refine va_putF (D := D) (ci := 2) (v := .ref ln) (ty := (.object "PunchedTicket$Line")) (C := RX2) (T := TX2) (N := 3) hx hb hts iX2 tyX2 tyX2_ok nmX2 hown hK hP hD hS 0 rfl rfl 0 (by decide) (hts (.fieldLink RX2 15 "PunchedTicket$Trial" "line" "LPunchedTicket$Line;") (List.mem_of_getElem? (i := 6) rfl)) (fun _ h9 => h9) rfl hin rfl (by decide +kernel) rfl rfl (Nat.le_of_ble_eq_true rfl) dX2_init_13 (fun H locs hP hD hS => ?_)
  have hP : va_P D vwCl [(h0, .inr (2, [.ref ln, .null, .ref q_1])), (q_1, .inl (cI, 5, .inl (fun _ => 0)))] H := hP
  have hD : va_D A [(h0, .inr (2, [.ref ln, .null, .ref q_1])), (q_1, .inl (cI, 5, .inl (fun _ => 0)))] := hD
  refine lv_aload_n hx hb dX2_init_16 rfl (lv_at hl 0 rfl) ?_
  refine va_new (ci := 1) (fs := [.null, .int 0, .int 0, .int 0, .int 0, .null, .null, .null]) (C := RX1) (T := TX1) (N := 8) hx hb hts iX1 tyX1 tyX1_ok hown (hts (.classLink RX2 19 RX1) (List.mem_of_getElem? (i := 7) rfl)) (hts (.instantiable RX1 8) (List.mem_of_getElem? (i := 8) rfl)) (hts (.initialized RX1) (List.mem_of_getElem? (i := 9) rfl)) hK hP hD hS hA rfl (fun j hj => by rcases (show j = 0 ∨ j = 1 ∨ j = 2 ∨ j = 3 ∨ j = 4 ∨ j = 5 ∨ j = 6 ∨ j = 7 by omega) with rfl | rfl | rfl | rfl | rfl | rfl | rfl | rfl <;> rfl) (by rw [hR]; exact Nat.le_of_ble_eq_true rfl) (by rw [hR]; exact Nat.le_of_ble_eq_true rfl) dX2_init_17 (fun q_2 H hP hD hS => ?_)
  have hP : va_P D vwCl [(h0, .inr (2, [.ref ln, .null, .ref q_1])), (q_1, .inl (cI, 5, .inl (fun _ => 0))), (q_2, .inr (1, [.null, .int 0, .int 0, .int 0, .int 0, .null, .null, .null]))] H := hP
  have hD : va_D A [(h0, .inr (2, [.ref ln, .null, .ref q_1])), (q_1, .inl (cI, 5, .inl (fun _ => 0))), (q_2, .inr (1, [.null, .int 0, .int 0, .int 0, .int 0, .null, .null, .null]))] := hD
  refine W.widen (k := 2) (n := 13) (by omega) (by omega) ?_
  refine lv_dup hx hb dX2_init_20 rfl ?_
  refine lv_aload_n hx hb dX2_init_21 rfl (lv_at hl 1 rfl) ?_
  refine cI_v (As := [.ref ln]) (rest := [.ref q_2, .ref h0]) ⟨hx, hb, hml, hown, hts⟩ (c_X1_init l D cI cZ cM q_2 ln _ ) (cwI 1 hts gX2_init_X1_init rfl rfl rfl (hts (.initialized RX1) (List.mem_of_getElem? (i := 9) rfl)) (hts (.methodLink RX2 21 yX1_init) (List.mem_of_getElem? (i := 11) rfl)) (hts (.instanceMethod yX1_init) (List.mem_of_getElem? (i := 12) rfl)) rfl (by decide +kernel) ⟨by rw [hR]; decide, by rw [hR]; decide⟩) hK hP hD hS hA [2] [0, 1] rfl rfl (by decide) (by decide) (by decide) hl.1 rfl rfl (Nat.le_of_ble_eq_true rfl) dX2_init_22 ⟨by rw [hR]; decide, by rw [hR]; decide⟩ (fun u_7 H locs hw hP hD hS => ?_)
  obtain ⟨nat_3, nfd_4, nhd_5⟩ := u_7
  have hP : va_P D vwCl [(h0, .inr (2, [.ref ln, .null, .ref q_1])), (q_1, .inl (cI, 5, .inl (fun _ => 0))), (q_2, .inr (1, [.ref ln, .int 0, .int 0, .int 0, .int 0, .ref nat_3, .ref nfd_4, .ref nhd_5])), (nat_3, .inl (cI, 5, .inl (fun _ => 0))), (nfd_4, .inl (cI, 7, .inl (fun _ => 0))), (nhd_5, .inl (cI, 7, .inl (fun _ => 0)))] H := hP.sub [0, 1, 2, 3, 4, 5] rfl
  have hD : va_D A [(h0, .inr (2, [.ref ln, .null, .ref q_1])), (q_1, .inl (cI, 5, .inl (fun _ => 0))), (q_2, .inr (1, [.ref ln, .int 0, .int 0, .int 0, .int 0, .ref nat_3, .ref nfd_4, .ref nhd_5])), (nat_3, .inl (cI, 5, .inl (fun _ => 0))), (nfd_4, .inl (cI, 7, .inl (fun _ => 0))), (nhd_5, .inl (cI, 7, .inl (fun _ => 0)))] := hD.sub [0, 1, 2, 3, 4, 5] (by decide) rfl
  refine W.widen (k := 5) (n := 32) (by omega) (by omega) ?_
  refine va_putF (D := D) (ci := 2) (v := .ref q_2) (ty := (.object "PunchedTicket$Moment")) (C := RX2) (T := TX2) (N := 3) hx hb hts iX2 tyX2 tyX2_ok nmX2 hown hK hP hD hS 0 rfl rfl 1 (by decide) (hts (.fieldLink RX2 24 "PunchedTicket$Trial" "moment" "LPunchedTicket$Moment;") (List.mem_of_getElem? (i := 10) rfl)) (fun _ h9 => h9) rfl hin rfl (by decide +kernel) rfl rfl (Nat.le_of_ble_eq_true rfl) dX2_init_25 (fun H locs hP hD hS => ?_)
  have hP : va_P D vwCl [(h0, .inr (2, [.ref ln, .ref q_2, .ref q_1])), (q_1, .inl (cI, 5, .inl (fun _ => 0))), (q_2, .inr (1, [.ref ln, .int 0, .int 0, .int 0, .int 0, .ref nat_3, .ref nfd_4, .ref nhd_5])), (nat_3, .inl (cI, 5, .inl (fun _ => 0))), (nfd_4, .inl (cI, 7, .inl (fun _ => 0))), (nhd_5, .inl (cI, 7, .inl (fun _ => 0)))] H := hP
  have hD : va_D A [(h0, .inr (2, [.ref ln, .ref q_2, .ref q_1])), (q_1, .inl (cI, 5, .inl (fun _ => 0))), (q_2, .inr (1, [.ref ln, .int 0, .int 0, .int 0, .int 0, .ref nat_3, .ref nfd_4, .ref nhd_5])), (nat_3, .inl (cI, 5, .inl (fun _ => 0))), (nfd_4, .inl (cI, 7, .inl (fun _ => 0))), (nhd_5, .inl (cI, 7, .inl (fun _ => 0)))] := hD
  exact ret_v (post := (fun (u : Nat × Nat × Nat × Nat × Nat) => True)) (W1 := (fun u => [(h0, .inr (2, [.ref ln, .ref u.1, .ref u.2.1])), (u.1, .inr (1, [.ref ln, .int 0, .int 0, .int 0, .int 0, .ref u.2.2.1, .ref u.2.2.2.1, .ref u.2.2.2.2])), (u.2.2.1, .inl (cI, 5, .inl (fun _ => 0))), (u.2.2.2.1, .inl (cI, 7, .inl (fun _ => 0))), (u.2.2.2.2, .inl (cI, 7, .inl (fun _ => 0))), (u.2.1, .inl (cI, 5, .inl (fun _ => 0)))])) (q_2, q_1, nat_3, nfd_4, nhd_5) hx hb hr hlocks hQ hK (hP.sub [0, 2, 3, 4, 5, 1] rfl) (hD.sub [0, 2, 3, 4, 5, 1] (by decide) rfl) hS ⟨by decide, by decide⟩ dX2_init_28 trivial
