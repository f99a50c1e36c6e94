set_option maxRecDepth 20000 in
theorem ggL_law_X3_write : GoodIn wsL_law wsX3_write := goodIn_r _ [102, 15, 14, 757, 758, 759, 760, 761, 762, 763, 764, 765, 766, 767, 768, 769, 770, 771, 772, 773] rfl (by decide +kernel)
set_option maxRecDepth 20000 in
theorem gL_law_X3_write : GoodIn wsL_law (wsV RL 13 RX3 yX3_write wsX3_write) := goodIn_app (goodIn_r _ [99, 100, 101, 2] rfl (by decide +kernel)) ggL_law_X3_write
set_option maxRecDepth 20000 in
theorem ggL_law_X4_write : GoodIn wsL_law wsX4_write := goodIn_r _ [106, 107, 108, 86, 109, 110, 5, 111, 774, 775, 776, 777, 778, 779, 780, 781, 782, 783, 784, 785, 786, 787, 788, 789, 790, 791, 792, 793, 794, 795, 796, 797, 798, 799, 800, 801, 802, 803] rfl (by decide +kernel)
set_option maxRecDepth 20000 in
theorem gL_law_X4_write : GoodIn wsL_law (wsV RL 17 RX4 yX4_write wsX4_write) := goodIn_app (goodIn_r _ [103, 104, 105, 5] rfl (by decide +kernel)) ggL_law_X4_write
set_option maxRecDepth 20000 in
theorem ggL_law_X3_wipe : GoodIn wsL_law wsX3_wipe := goodIn_r _ [115, 15, 757, 758, 759, 760, 761, 762, 763, 764, 765, 766, 767, 768, 769, 770, 771, 772, 773] rfl (by decide +kernel)
set_option maxRecDepth 20000 in
theorem gL_law_X3_wipe : GoodIn wsL_law (wsV RL 18 RX3 yX3_wipe wsX3_wipe) := goodIn_app (goodIn_r _ [112, 113, 114, 2] rfl (by decide +kernel)) ggL_law_X3_wipe
set_option maxRecDepth 20000 in
theorem ggL_law_X4_wipe : GoodIn wsL_law wsX4_wipe := goodIn_r _ [119, 108, 774, 775, 776, 777, 778, 779, 780, 781, 782, 783, 784, 785, 786, 787, 788, 789, 790, 791, 792, 793, 794, 795, 796, 797, 798, 799, 800, 801, 802, 803] rfl (by decide +kernel)
set_option maxRecDepth 20000 in
theorem gL_law_X4_wipe : GoodIn wsL_law (wsV RL 22 RX4 yX4_wipe wsX4_wipe) := goodIn_app (goodIn_r _ [116, 117, 118, 5] rfl (by decide +kernel)) ggL_law_X4_wipe
set_option maxRecDepth 20000 in
theorem ggL_law_X3_fault : GoodIn wsL_law wsX3_fault := goodIn_r _ [123, 20, 14, 15, 124, 125, 126, 18, 127, 43, 44, 128, 129, 130, 131, 132, 133, 134, 135, 136, 137, 138, 139, 140, 141, 142, 143, 45, 46, 47, 48, 49, 50, 51, 52, 757, 758, 759, 760, 761, 762, 763, 764, 765, 766, 767, 768, 769, 770, 771, 772, 773, 804, 805, 806, 807, 808, 809, 810, 811, 812, 813] rfl (by decide +kernel)
set_option maxRecDepth 20000 in
theorem gL_law_X3_fault : GoodIn wsL_law (wsV RL 23 RX3 yX3_fault wsX3_fault) := goodIn_app (goodIn_r _ [120, 121, 122, 2] rfl (by decide +kernel)) ggL_law_X3_fault
set_option maxRecDepth 20000 in
theorem ggL_law_X4_fault : GoodIn wsL_law wsX4_fault := goodIn_r _ [147, 148, 149, 150, 5, 151, 152, 153, 154, 155, 108, 86, 82, 83, 84, 85, 156, 157, 158, 159, 109, 110, 111, 774, 775, 776, 777, 778, 779, 780, 781, 782, 783, 784, 785, 786, 787, 788, 789, 790, 791, 792, 793, 794, 795, 796, 797, 798, 799, 800, 801, 802, 803] rfl (by decide +kernel)
set_option maxRecDepth 20000 in
theorem gL_law_X4_fault : GoodIn wsL_law (wsV RL 26 RX4 yX4_fault wsX4_fault) := goodIn_app (goodIn_r _ [144, 145, 146, 5] rfl (by decide +kernel)) ggL_law_X4_fault
set_option maxRecDepth 20000 in
theorem ggL_law_X3_line : GoodIn wsL_law wsX3_line := goodIn_r _ [163, 20, 14, 15, 19, 24, 29, 164, 165, 124, 125, 126, 18, 127, 43, 44, 128, 129, 130, 131, 132, 133, 134, 135, 136, 137, 138, 139, 140, 141, 142, 143, 45, 46, 47, 48, 49, 50, 51, 52, 166, 167, 168, 169, 170, 171, 172, 173, 174, 175, 176, 23, 177, 57, 64, 178, 58, 59, 60, 179, 61, 180, 181, 62, 182, 63, 183, 184, 185, 2, 186, 26, 27, 757, 758, 759, 760, 761, 762, 763, 764, 765, 766, 767, 768, 769, 770, 771, 772, 773, 804, 805, 806, 807, 808, 809, 810, 811, 812, 813, 814, 815, 816, 817, 818, 819, 820, 821] rfl (by decide +kernel)
set_option maxRecDepth 20000 in
theorem gL_law_X3_line : GoodIn wsL_law (wsV RL 27 RX3 yX3_line wsX3_line) := goodIn_app (goodIn_r _ [160, 161, 162, 2] rfl (by decide +kernel)) ggL_law_X3_line
set_option maxRecDepth 20000 in
theorem ggL_law_X4_line : GoodIn wsL_law wsX4_line := goodIn_r _ [190, 154, 98, 155, 191, 81, 78, 83, 79, 84, 82, 85, 80, 192, 96, 148, 149, 150, 5, 151, 152, 153, 108, 86, 156, 157, 158, 159, 109, 110, 111, 774, 775, 776, 777, 778, 779, 780, 781, 782, 783, 784, 785, 786, 787, 788, 789, 790, 791, 792, 793, 794, 795, 796, 797, 798, 799, 800, 801, 802, 803] rfl (by decide +kernel)
set_option maxRecDepth 20000 in
theorem gL_law_X4_line : GoodIn wsL_law (wsV RL 30 RX4 yX4_line wsX4_line) := goodIn_app (goodIn_r _ [187, 188, 189, 5] rfl (by decide +kernel)) ggL_law_X4_line
set_option maxRecDepth 20000 in
theorem ggL_law_X3_person : GoodIn wsL_law wsX3_person := goodIn_r _ [196, 19, 24, 197, 198, 199, 200, 201, 202, 18, 203, 43, 204, 205, 206, 23, 207, 58, 63, 208, 209, 210, 211, 60, 212, 213, 214, 2, 215, 38, 216, 217, 218, 219, 220, 62, 57, 64, 221, 222, 223, 224, 225, 59, 226, 227, 228, 61, 757, 758, 759, 760, 761, 762, 763, 764, 765, 766, 767, 768, 769, 770, 771, 772, 773, 814, 815, 816, 817, 818, 819, 820, 821, 804, 805, 806, 807, 808, 809, 810, 811, 812, 813, 822, 823, 824] rfl (by decide +kernel)
set_option maxRecDepth 20000 in
theorem gL_law_X3_person : GoodIn wsL_law (wsV RL 31 RX3 yX3_person wsX3_person) := goodIn_app (goodIn_r _ [193, 194, 195, 2] rfl (by decide +kernel)) ggL_law_X3_person
set_option maxRecDepth 20000 in
theorem ggL_law_X4_person : GoodIn wsL_law wsX4_person := goodIn_r _ [232, 191, 81, 78, 79, 233, 234, 235, 5, 236, 98, 109, 110, 111, 237, 238, 239, 240, 241, 242, 243, 244, 245, 246, 247, 248, 774, 775, 776, 777, 778, 779, 780, 781, 782, 783, 784, 785, 786, 787, 788, 789, 790, 791, 792, 793, 794, 795, 796, 797, 798, 799, 800, 801, 802, 803] rfl (by decide +kernel)
set_option maxRecDepth 20000 in
theorem gL_law_X4_person : GoodIn wsL_law (wsV RL 35 RX4 yX4_person wsX4_person) := goodIn_app (goodIn_r _ [229, 230, 231, 5] rfl (by decide +kernel)) ggL_law_X4_person
theorem dL_law_164 : decode cL_law 164 = .ok (.aload_n 1, 1) := by decide +kernel
theorem dL_law_165 : decode cL_law 165 = .ok (.aload_n 0, 1) := by decide +kernel
theorem dL_law_166 : decode cL_law 166 = .ok (.iload_n 3, 1) := by decide +kernel
theorem dL_law_167 : decode cL_law 167 = .ok (.iconst 1, 1) := by decide +kernel
theorem dL_law_168 : decode cL_law 168 = .ok (.iadd, 1) := by decide +kernel
theorem dL_law_169 : decode cL_law 169 = .ok (.iaload, 1) := by decide +kernel
theorem dL_law_170 : decode cL_law 170 = .ok (.invokevirtual 13, 3) := by decide +kernel
theorem dL_law_173 : decode cL_law 173 = .ok (.pop, 1) := by decide +kernel
theorem dL_law_174 : decode cL_law 174 = .ok (.aload_n 2, 1) := by decide +kernel
theorem dL_law_175 : decode cL_law 175 = .ok (.aload_n 0, 1) := by decide +kernel
theorem dL_law_176 : decode cL_law 176 = .ok (.iload_n 3, 1) := by decide +kernel
theorem dL_law_177 : decode cL_law 177 = .ok (.iconst 1, 1) := by decide +kernel
theorem dL_law_178 : decode cL_law 178 = .ok (.iadd, 1) := by decide +kernel
theorem dL_law_179 : decode cL_law 179 = .ok (.iaload, 1) := by decide +kernel
theorem dL_law_180 : decode cL_law 180 = .ok (.invokevirtual 17, 3) := by decide +kernel
theorem dL_law_183 : decode cL_law 183 = .ok (.pop, 1) := by decide +kernel
theorem dL_law_184 : decode cL_law 184 = .ok (.goto 785, 3) := by decide +kernel
theorem dL_law_187 : decode cL_law 187 = .ok (.aload_n 1, 1) := by decide +kernel
theorem dL_law_188 : decode cL_law 188 = .ok (.invokevirtual 18, 3) := by decide +kernel
theorem dL_law_191 : decode cL_law 191 = .ok (.pop, 1) := by decide +kernel
theorem dL_law_192 : decode cL_law 192 = .ok (.aload_n 2, 1) := by decide +kernel
theorem dL_law_193 : decode cL_law 193 = .ok (.invokevirtual 22, 3) := by decide +kernel
theorem dL_law_196 : decode cL_law 196 = .ok (.pop, 1) := by decide +kernel
theorem dL_law_197 : decode cL_law 197 = .ok (.goto 772, 3) := by decide +kernel
theorem dL_law_200 : decode cL_law 200 = .ok (.aload_n 1, 1) := by decide +kernel
theorem dL_law_201 : decode cL_law 201 = .ok (.invokevirtual 23, 3) := by decide +kernel
theorem dL_law_204 : decode cL_law 204 = .ok (.pop, 1) := by decide +kernel
theorem dL_law_205 : decode cL_law 205 = .ok (.aload_n 2, 1) := by decide +kernel
theorem dL_law_206 : decode cL_law 206 = .ok (.invokevirtual 26, 3) := by decide +kernel
theorem dL_law_209 : decode cL_law 209 = .ok (.pop, 1) := by decide +kernel
theorem dL_law_210 : decode cL_law 210 = .ok (.goto 759, 3) := by decide +kernel
theorem dL_law_213 : decode cL_law 213 = .ok (.aload_n 1, 1) := by decide +kernel
theorem dL_law_214 : decode cL_law 214 = .ok (.invokevirtual 27, 3) := by decide +kernel
theorem dL_law_217 : decode cL_law 217 = .ok (.pop, 1) := by decide +kernel
theorem dL_law_218 : decode cL_law 218 = .ok (.aload_n 2, 1) := by decide +kernel
theorem dL_law_219 : decode cL_law 219 = .ok (.invokevirtual 30, 3) := by decide +kernel
theorem dL_law_222 : decode cL_law 222 = .ok (.pop, 1) := by decide +kernel
theorem dL_law_223 : decode cL_law 223 = .ok (.goto 746, 3) := by decide +kernel
theorem dL_law_226 : decode cL_law 226 = .ok (.aload_n 1, 1) := by decide +kernel
theorem dL_law_227 : decode cL_law 227 = .ok (.aload_n 0, 1) := by decide +kernel
theorem dL_law_228 : decode cL_law 228 = .ok (.iload_n 3, 1) := by decide +kernel
theorem dL_law_229 : decode cL_law 229 = .ok (.iconst 1, 1) := by decide +kernel
theorem dL_law_230 : decode cL_law 230 = .ok (.iadd, 1) := by decide +kernel
theorem dL_law_231 : decode cL_law 231 = .ok (.iaload, 1) := by decide +kernel
theorem dL_law_232 : decode cL_law 232 = .ok (.aload_n 0, 1) := by decide +kernel
theorem dL_law_233 : decode cL_law 233 = .ok (.iload_n 3, 1) := by decide +kernel
theorem dL_law_234 : decode cL_law 234 = .ok (.iconst 2, 1) := by decide +kernel
theorem dL_law_235 : decode cL_law 235 = .ok (.iadd, 1) := by decide +kernel
theorem dL_law_236 : decode cL_law 236 = .ok (.iaload, 1) := by decide +kernel
theorem dL_law_237 : decode cL_law 237 = .ok (.invokevirtual 31, 3) := by decide +kernel
theorem dL_law_240 : decode cL_law 240 = .ok (.pop, 1) := by decide +kernel
theorem dL_law_241 : decode cL_law 241 = .ok (.aload_n 2, 1) := by decide +kernel
theorem dL_law_242 : decode cL_law 242 = .ok (.aload_n 0, 1) := by decide +kernel
theorem dL_law_243 : decode cL_law 243 = .ok (.iload_n 3, 1) := by decide +kernel
theorem dL_law_244 : decode cL_law 244 = .ok (.iconst 1, 1) := by decide +kernel
theorem dL_law_245 : decode cL_law 245 = .ok (.iadd, 1) := by decide +kernel
theorem dL_law_246 : decode cL_law 246 = .ok (.iaload, 1) := by decide +kernel
theorem dL_law_247 : decode cL_law 247 = .ok (.aload_n 0, 1) := by decide +kernel
theorem dL_law_248 : decode cL_law 248 = .ok (.iload_n 3, 1) := by decide +kernel
theorem dL_law_249 : decode cL_law 249 = .ok (.iconst 2, 1) := by decide +kernel
theorem dL_law_250 : decode cL_law 250 = .ok (.iadd, 1) := by decide +kernel
theorem dL_law_251 : decode cL_law 251 = .ok (.iaload, 1) := by decide +kernel
theorem dL_law_252 : decode cL_law 252 = .ok (.invokevirtual 35, 3) := by decide +kernel
theorem dL_law_255 : decode cL_law 255 = .ok (.pop, 1) := by decide +kernel
theorem dL_law_256 : decode cL_law 256 = .ok (.goto 713, 3) := by decide +kernel
set_option maxHeartbeats 1000000 in
set_option maxRecDepth 100000 in
theorem law_c0 {p : Program} {l : Launch} {e : Env} {s : State} {m : MethodId} {below : List Frame} {meth : Method} {c : Code} {b LN : Nat} {xs : Nat → Int32} {A : Nat → Prop} {args : Array Value} {R : Room} {Q : State → Prop} (hB : Lb p s m args meth c b xs A LN) (hR : R = room_1) (D : va_G) (cI cZ cM : ClassId) (hK : va_K D vwCl (ty3 cI cZ cM) s) {x0 y0 : Nat} {H : Heap} {locs : List Loc} {ls : Array Slot} {c0 s0 : Nat} (hc : c0 + 4 ≤ 600000) (hs : s0 + 27 ≤ 7302250) {ix : Int32} (hixa : 0 ≤ ix.toInt) (hixb : ix.toInt + 5 ≤ (LN : Int)) (hLN : LN ≤ 320) (hSt : StW D cI cZ cM A x0 y0 H) (hS : va_S A s.heap H locs) (hl : lv_has ls 4 [(0, .ref b), (1, .ref x0), (2, .ref y0), (3, .int ix)]) (hNext : ∀ (H : Heap) (locs : List Loc) (ls : Array Slot), StW D cI cZ cM A x0 y0 H → va_S A s.heap H locs → lv_has ls 4 [(0, .ref b), (1, .ref x0), (2, .ref y0), (3, .int ix)] → W p l e R s m args below meth c H locs (c0 + 4) (s0 + 27) Q (F0 m 969 ls [])) : W p l e R s m args below meth c H locs c0 s0 Q (F0 m 164 ls []) := by
  obtain ⟨hx, hb, hr, hml, hown, hts, hX, hbl, hlocks, hA, hAf⟩ := hB
  have hbA : ¬ A b := fun q => absurd (hAf b q) (Nat.not_le.mpr hbl)
  refine stw_elim hSt ?_
  intro tx le td dr nw ac fa an kp ks sp ss sy sc sd tr ia Ftx lpe ltk lho lli lki lfd lfr lto lse lhl lFho lFli lFki lFfd lFfr lFto lFse lFhl dpe dtk dho dli dki dfd dfr dto dse dhl dFho dFli dFki dFfd dFfr dFto dFse dFhl md mt mr mg mat mfd mhd mFat mFfd mFhd Fac Fkp Fsp Fss Fsy mo rd zd zt zr zg zat zfd zhd zFat zFfd zFhd Frd Fia ype ytk ywi yki yse yno yrh yrw yrk yrt yrp yrq ytx yle yat yfa yby ylo yhi yac ynx yro ygl ysn yso ysp ysw ysd yik ykp Ywi Yki Yse Yno Yrh Yrw Yrk Yrt Ytx Yby Ylo Yhi Yro Ygl Yso Ysp Ysw Yik Ykp L hI hP hD
  obtain ⟨⟨hle0, hle1⟩, ⟨hfa0, hfa1⟩, ⟨han0, han1⟩, ⟨hsc0, hsc1⟩, ⟨hlpe0, hlpe1⟩, ⟨hltk0, hltk1⟩, ⟨hmd0, hmd1⟩, ⟨hmt0, hmt1⟩, ⟨hype0, hype1⟩, ⟨hytk0, hytk1⟩, ⟨hyle0, hyle1⟩, ⟨hyac0, hyac1⟩, ⟨hynx0, hynx1⟩, ⟨hysn0, hysn1⟩, hPoA, hPoK, hMsO, hByO, hle, hsd, hTX, hTxO, hlpt, hsct⟩ := hI
  have hlet : le.toInt = yle.toInt := by rw [hle]
  have hTxY : TxOk Ytx := hTX ▸ hTxO
  have hFL : flt Ytx yle.toInt = flt Ftx le.toInt := by rw [hTX, hle]
  have hFL_1 : (flt Ytx yle.toInt).1 = (flt Ftx le.toInt).1 := by rw [hFL]
  have hFL_2_1 : (flt Ytx yle.toInt).2.1 = (flt Ftx le.toInt).2.1 := by rw [hFL]
  have hFL_2_2 : (flt Ytx yle.toInt).2.2 = (flt Ftx le.toInt).2.2 := by rw [hFL]
  have hsdt : sd.toInt = ysd.toInt := by rw [hsd]
  obtain ⟨a1, ha1⟩ : ∃ z : Int32, xs (ix + 1 : Int32).toNatClampNeg = z := ⟨_, rfl⟩
  obtain ⟨a2, ha2⟩ : ∃ z : Int32, xs (ix + 2 : Int32).toNatClampNeg = z := ⟨_, rfl⟩
  obtain ⟨a3, ha3⟩ : ∃ z : Int32, xs (ix + 3 : Int32).toNatClampNeg = z := ⟨_, rfl⟩
  obtain ⟨a4, ha4⟩ : ∃ z : Int32, xs (ix + 4 : Int32).toNatClampNeg = z := ⟨_, rfl⟩
  refine lv_aload_n hx hb dL_law_164 rfl (lv_at hl 1 rfl) ?_
  refine lv_aload_n hx hb dL_law_165 rfl (lv_at hl 0 rfl) ?_
  refine lv_iload_n hx hb dL_law_166 rfl (lv_at hl 3 rfl) ?_
  refine lv_iconst (v := 1) hx hb dL_law_167 (by decide) ?_
  refine lv_iadd hx hb dL_law_168 ?_
  refine lv_topi (fun v_1 ev_1 => ?_)
  have tv_1 : v_1.toInt = ix.toInt + (1 : Int) := by rw [ev_1]; exact ti_add (x := ix) (y := 1) (show -2147483648 ≤ ix.toInt + (1 : Int) by omega) (show ix.toInt + (1 : Int) < 2147483648 by omega)
  refine va_sld hx hb hX hbl hbA hS (vp_in_iff.mpr ⟨by omega, by omega⟩) dL_law_169 ?_
  refine lv_topc (y := a1) (by rw [ev_1]; exact ha1) ?_
  refine fV_i (As := [.int a1]) (rest := []) ⟨hx, hb, hml, hown, hts⟩ (t_X3_write l D cI cZ cM x0 a1 tx le td dr nw ac fa an kp ks sp ss sy sc sd tr ia Ftx _ (show 0 ≤ le.toInt ∧ le.toInt ≤ 64 by omega)) (cwV 1 hts gL_law_X3_write rfl rfl rfl (by decide +kernel) ⟨by rw [hR]; decide, by rw [hR]; decide⟩) hK hP hD hS hA [0, 1] [2, 3, 4, 5, 6, 7, 8, 9, 10, 11, 12, 13, 14, 15, 16, 17, 18, 19, 20, 21, 22, 23, 24, 25, 26, 27, 28, 29, 30, 31, 32, 33, 34, 35, 36, 37, 38, 39, 40, 41, 42, 43, 44, 45, 46, 47, 48, 49, 50, 51, 52, 53, 54, 55] rfl rfl (by decide) (by decide +kernel) (by decide +kernel) rfl 0 rfl hl.1 rfl rfl (Nat.le_of_ble_eq_true rfl) dL_law_170 ⟨by rw [hR]; exact (show _ ≤ 600000 by omega), by rw [hR]; exact (show _ ≤ 7302250 by omega)⟩ (fun r_4 u_5 H locs hw hP hD hS => ?_)
  obtain ⟨le1_2, Gtx_3⟩ := u_5
  obtain ⟨hP, hD⟩ := PD_subF (X' := WXY cI cZ cM x0 y0 tx le1_2 td dr nw ac fa an kp ks sp ss sy sc sd tr ia Gtx_3 lpe ltk lho lli lki lfd lfr lto lse lhl lFho lFli lFki lFfd lFfr lFto lFse lFhl dpe dtk dho dli dki dfd dfr dto dse dhl dFho dFli dFki dFfd dFfr dFto dFse dFhl md mt mr mg mat mfd mhd mFat mFfd mFhd Fac Fkp Fsp Fss Fsy mo rd zd zt zr zg zat zfd zhd zFat zFfd zFhd Frd Fia ype ytk ywi yki yse yno yrh yrw yrk yrt yrp yrq ytx yle yat yfa yby ylo yhi yac ynx yro ygl ysn yso ysp ysw ysd yik ykp Ywi Yki Yse Yno Yrh Yrw Yrk Yrt Ytx Yby Ylo Yhi Yro Ygl Yso Ysp Ysw Yik Ykp) hP hD [54, 55, 0, 1, 2, 3, 4, 5, 6, 7, 8, 9, 10, 11, 12, 13, 14, 15, 16, 17, 18, 19, 20, 21, 22, 23, 24, 25, 26, 27, 28, 29, 30, 31, 32, 33, 34, 35, 36, 37, 38, 39, 40, 41, 42, 43, 44, 45, 46, 47, 48, 49, 50, 51, 52, 53] (by decide +kernel) rfl
  delta WXY at hP hD
  refine W.widen (k := c0) (n := s0) (Nat.le_refl _) (Nat.le_refl _) ?_
  have hw : (((a1.toInt < 0 ∨ 255 < a1.toInt) ∧ r_4.toInt = -2 ∧ le1_2 = le ∧ Gtx_3 = Ftx) ∨ (0 ≤ a1.toInt ∧ a1.toInt ≤ 255 ∧ le.toInt = 64 ∧ r_4.toInt = -4 ∧ le1_2 = le ∧ Gtx_3 = Ftx) ∨ (0 ≤ a1.toInt ∧ a1.toInt ≤ 255 ∧ le.toInt < 64 ∧ r_4.toInt = le.toInt + 1 ∧ le1_2 = le + 1 ∧ Gtx_3 = upd Ftx (le).toNatClampNeg a1)) ∧ 0 ≤ le1_2.toInt ∧ le1_2.toInt ≤ 64 := hw
  have hw_6 := hw
  refine lv_pop hx hb dL_law_173 rfl ?_
  refine lv_aload_n hx hb dL_law_174 rfl (lv_at hl 2 rfl) ?_
  refine lv_aload_n hx hb dL_law_175 rfl (lv_at hl 0 rfl) ?_
  refine lv_iload_n hx hb dL_law_176 rfl (lv_at hl 3 rfl) ?_
  refine lv_iconst (v := 1) hx hb dL_law_177 (by decide) ?_
  refine lv_iadd hx hb dL_law_178 ?_
  refine lv_topi (fun v_7 ev_7 => ?_)
  have tv_7 : v_7.toInt = ix.toInt + (1 : Int) := by rw [ev_7]; exact ti_add (x := ix) (y := 1) (show -2147483648 ≤ ix.toInt + (1 : Int) by omega) (show ix.toInt + (1 : Int) < 2147483648 by omega)
  refine va_sld hx hb hX hbl hbA hS (vp_in_iff.mpr ⟨by omega, by omega⟩) dL_law_179 ?_
  refine lv_topc (y := a1) (by rw [ev_7]; exact ha1) ?_
  refine fV_i (As := [.int a1]) (rest := []) ⟨hx, hb, hml, hown, hts⟩ (t_X4_write l D cI cZ cM y0 a1 ype ytk ywi yki yse yno yrh yrw yrk yrt yrp yrq ytx yle yat yfa yby ylo yhi yac ynx yro ygl ysn yso ysp ysw ysd yik ykp Ytx _ (show 0 ≤ yle.toInt ∧ yle.toInt ≤ 64 by omega)) (cwV 1 hts gL_law_X4_write rfl rfl rfl (by decide +kernel) ⟨by rw [hR]; decide, by rw [hR]; decide⟩) hK hP hD hS hA [36, 45] [0, 1, 2, 3, 4, 5, 6, 7, 8, 9, 10, 11, 12, 13, 14, 15, 16, 17, 18, 19, 20, 21, 22, 23, 24, 25, 26, 27, 28, 29, 30, 31, 32, 33, 34, 35, 37, 38, 39, 40, 41, 42, 43, 44, 46, 47, 48, 49, 50, 51, 52, 53, 54, 55] rfl rfl (by decide) (by decide +kernel) (by decide +kernel) rfl 36 rfl hl.1 rfl rfl (Nat.le_of_ble_eq_true rfl) dL_law_180 ⟨by rw [hR]; exact (show _ ≤ 600000 by omega), by rw [hR]; exact (show _ ≤ 7302250 by omega)⟩ (fun r_10 u_11 H locs hw hP hD hS => ?_)
  obtain ⟨le1_8, Gtx_9⟩ := u_11
  obtain ⟨hP, hD⟩ := PD_subF (X' := WXY cI cZ cM x0 y0 tx le1_2 td dr nw ac fa an kp ks sp ss sy sc sd tr ia Gtx_3 lpe ltk lho lli lki lfd lfr lto lse lhl lFho lFli lFki lFfd lFfr lFto lFse lFhl dpe dtk dho dli dki dfd dfr dto dse dhl dFho dFli dFki dFfd dFfr dFto dFse dFhl md mt mr mg mat mfd mhd mFat mFfd mFhd Fac Fkp Fsp Fss Fsy mo rd zd zt zr zg zat zfd zhd zFat zFfd zFhd Frd Fia ype ytk ywi yki yse yno yrh yrw yrk yrt yrp yrq ytx le1_8 yat yfa yby ylo yhi yac ynx yro ygl ysn yso ysp ysw ysd yik ykp Ywi Yki Yse Yno Yrh Yrw Yrk Yrt Gtx_9 Yby Ylo Yhi Yro Ygl Yso Ysp Ysw Yik Ykp) hP hD [0, 1, 2, 3, 4, 5, 6, 7, 8, 9, 10, 11, 12, 13, 14, 15, 16, 17, 18, 19, 20, 21, 22, 23, 24, 25, 26, 27, 28, 29, 30, 31, 32, 33, 34, 35, 54, 36, 37, 38, 39, 40, 41, 42, 43, 55, 44, 45, 46, 47, 48, 49, 50, 51, 52, 53] (by decide +kernel) rfl
  delta WXY at hP hD
  refine W.widen (k := c0) (n := s0) (Nat.le_refl _) (Nat.le_refl _) ?_
  have hw : (((a1.toInt < 0 ∨ 255 < a1.toInt) ∧ r_10.toInt = -2 ∧ le1_8 = yle ∧ Gtx_9 = Ytx) ∨ (0 ≤ a1.toInt ∧ a1.toInt ≤ 255 ∧ yle.toInt = 64 ∧ r_10.toInt = -4 ∧ le1_8 = yle ∧ Gtx_9 = Ytx) ∨ (0 ≤ a1.toInt ∧ a1.toInt ≤ 255 ∧ yle.toInt < 64 ∧ r_10.toInt = yle.toInt + 1 ∧ le1_8 = yle + 1 ∧ Gtx_9 = upd Ytx (yle).toNatClampNeg a1)) ∧ 0 ≤ le1_8.toInt ∧ le1_8.toInt ≤ 64 := hw
  have hw_12 := hw
  have HWR : Gtx_3 = Gtx_9 ∧ le1_2 = le1_8 ∧ TxOk Gtx_3 := by
    rcases hw_6.1 with x | x | x
    · rcases hw_12.1 with y | y | y
      · exact ⟨by rw [x.2.2.2, y.2.2.2]; exact hTX, by rw [x.2.2.1, y.2.2.1]; exact hle, by rw [x.2.2.2]; exact hTxO⟩
      · exfalso; omega
      · exfalso; omega
    · rcases hw_12.1 with y | y | y
      · exfalso; omega
      · exact ⟨by rw [x.2.2.2.2.2, y.2.2.2.2.2]; exact hTX, by rw [x.2.2.2.2.1, y.2.2.2.2.1]; exact hle, by rw [x.2.2.2.2.2]; exact hTxO⟩
      · exfalso; omega
    · rcases hw_12.1 with y | y | y
      · exfalso; omega
      · exfalso; omega
      · exact ⟨by rw [x.2.2.2.2.2, y.2.2.2.2.2, hTX, hle], by rw [x.2.2.2.2.1, y.2.2.2.2.1, hle], by rw [x.2.2.2.2.2]; exact txOk_upd hTxO x.1 x.2.1⟩
  refine lv_pop hx hb dL_law_183 rfl ?_
  refine lv_goto (tgt := 969) hx hb dL_law_184 (by decide) ?_
  refine W.widen (k := c0 + 4) (n := s0 + 27) (by omega) (by omega) ?_
  exact hNext _ _ _ (stw_intro hP hD ⟨(show 0 ≤ le1_2.toInt ∧ le1_2.toInt ≤ 64 by omega), ⟨hfa0, hfa1⟩, ⟨han0, han1⟩, ⟨hsc0, hsc1⟩, ⟨hlpe0, hlpe1⟩, ⟨hltk0, hltk1⟩, ⟨hmd0, hmd1⟩, ⟨hmt0, hmt1⟩, ⟨hype0, hype1⟩, ⟨hytk0, hytk1⟩, (show 0 ≤ le1_8.toInt ∧ le1_8.toInt ≤ 64 by omega), ⟨hyac0, hyac1⟩, ⟨hynx0, hynx1⟩, ⟨hysn0, hysn1⟩, hPoA, hPoK, hMsO, hByO, HWR.2.1, hsd, HWR.1, HWR.2.2, hlpt, hsct⟩) hS (lv_sub hl [0, 1, 2, 3] rfl)

set_option maxHeartbeats 1000000 in
set_option maxRecDepth 100000 in
theorem law_c1 {p : Program} {l : Launch} {e : Env} {s : State} {m : MethodId} {below : List Frame} {meth : Method} {c : Code} {b LN : Nat} {xs : Nat → Int32} {A : Nat → Prop} {args : Array Value} {R : Room} {Q : State → Prop} (hB : Lb p s m args meth c b xs A LN) (hR : R = room_1) (D : va_G) (cI cZ cM : ClassId) (hK : va_K D vwCl (ty3 cI cZ cM) s) {x0 y0 : Nat} {H : Heap} {locs : List Loc} {ls : Array Slot} {c0 s0 : Nat} (hc : c0 + 4 ≤ 600000) (hs : s0 + 27 ≤ 7302250) {ix : Int32} (hixa : 0 ≤ ix.toInt) (hixb : ix.toInt + 5 ≤ (LN : Int)) (hLN : LN ≤ 320) (hSt : StW D cI cZ cM A x0 y0 H) (hS : va_S A s.heap H locs) (hl : lv_has ls 4 [(0, .ref b), (1, .ref x0), (2, .ref y0), (3, .int ix)]) (hNext : ∀ (H : Heap) (locs : List Loc) (ls : Array Slot), StW D cI cZ cM A x0 y0 H → va_S A s.heap H locs → lv_has ls 4 [(0, .ref b), (1, .ref x0), (2, .ref y0), (3, .int ix)] → W p l e R s m args below meth c H locs (c0 + 4) (s0 + 27) Q (F0 m 969 ls [])) : W p l e R s m args below meth c H locs c0 s0 Q (F0 m 187 ls []) := by
  obtain ⟨hx, hb, hr, hml, hown, hts, hX, hbl, hlocks, hA, hAf⟩ := hB
  have hbA : ¬ A b := fun q => absurd (hAf b q) (Nat.not_le.mpr hbl)
  refine stw_elim hSt ?_
  intro tx le td dr nw ac fa an kp ks sp ss sy sc sd tr ia Ftx lpe ltk lho lli lki lfd lfr lto lse lhl lFho lFli lFki lFfd lFfr lFto lFse lFhl dpe dtk dho dli dki dfd dfr dto dse dhl dFho dFli dFki dFfd dFfr dFto dFse dFhl md mt mr mg mat mfd mhd mFat mFfd mFhd Fac Fkp Fsp Fss Fsy mo rd zd zt zr zg zat zfd zhd zFat zFfd zFhd Frd Fia ype ytk ywi yki yse yno yrh yrw yrk yrt yrp yrq ytx yle yat yfa yby ylo yhi yac ynx yro ygl ysn yso ysp ysw ysd yik ykp Ywi Yki Yse Yno Yrh Yrw Yrk Yrt Ytx Yby Ylo Yhi Yro Ygl Yso Ysp Ysw Yik Ykp L hI hP hD
  obtain ⟨⟨hle0, hle1⟩, ⟨hfa0, hfa1⟩, ⟨han0, han1⟩, ⟨hsc0, hsc1⟩, ⟨hlpe0, hlpe1⟩, ⟨hltk0, hltk1⟩, ⟨hmd0, hmd1⟩, ⟨hmt0, hmt1⟩, ⟨hype0, hype1⟩, ⟨hytk0, hytk1⟩, ⟨hyle0, hyle1⟩, ⟨hyac0, hyac1⟩, ⟨hynx0, hynx1⟩, ⟨hysn0, hysn1⟩, hPoA, hPoK, hMsO, hByO, hle, hsd, hTX, hTxO, hlpt, hsct⟩ := hI
  have hlet : le.toInt = yle.toInt := by rw [hle]
  have hTxY : TxOk Ytx := hTX ▸ hTxO
  have hFL : flt Ytx yle.toInt = flt Ftx le.toInt := by rw [hTX, hle]
  have hFL_1 : (flt Ytx yle.toInt).1 = (flt Ftx le.toInt).1 := by rw [hFL]
  have hFL_2_1 : (flt Ytx yle.toInt).2.1 = (flt Ftx le.toInt).2.1 := by rw [hFL]
  have hFL_2_2 : (flt Ytx yle.toInt).2.2 = (flt Ftx le.toInt).2.2 := by rw [hFL]
  have hsdt : sd.toInt = ysd.toInt := by rw [hsd]
  obtain ⟨a1, ha1⟩ : ∃ z : Int32, xs (ix + 1 : Int32).toNatClampNeg = z := ⟨_, rfl⟩
  obtain ⟨a2, ha2⟩ : ∃ z : Int32, xs (ix + 2 : Int32).toNatClampNeg = z := ⟨_, rfl⟩
  obtain ⟨a3, ha3⟩ : ∃ z : Int32, xs (ix + 3 : Int32).toNatClampNeg = z := ⟨_, rfl⟩
  obtain ⟨a4, ha4⟩ : ∃ z : Int32, xs (ix + 4 : Int32).toNatClampNeg = z := ⟨_, rfl⟩
  refine lv_aload_n hx hb dL_law_187 rfl (lv_at hl 1 rfl) ?_
  refine fV_i (As := []) (rest := []) ⟨hx, hb, hml, hown, hts⟩ (c_X3_wipe l D cI cZ cM x0 tx le td dr nw ac fa an kp ks sp ss sy sc sd tr ia _ ) (cwV 0 hts gL_law_X3_wipe rfl rfl rfl (by decide +kernel) ⟨by rw [hR]; decide, by rw [hR]; decide⟩) hK hP hD hS hA [0] [1, 2, 3, 4, 5, 6, 7, 8, 9, 10, 11, 12, 13, 14, 15, 16, 17, 18, 19, 20, 21, 22, 23, 24, 25, 26, 27, 28, 29, 30, 31, 32, 33, 34, 35, 36, 37, 38, 39, 40, 41, 42, 43, 44, 45, 46, 47, 48, 49, 50, 51, 52, 53, 54, 55] rfl rfl (by decide) (by decide +kernel) (by decide +kernel) rfl 0 rfl hl.1 rfl rfl (Nat.le_of_ble_eq_true rfl) dL_law_188 ⟨by rw [hR]; exact (show _ ≤ 600000 by omega), by rw [hR]; exact (show _ ≤ 7302250 by omega)⟩ (fun r_1 u_2 H locs hw hP hD hS => ?_)
  obtain ⟨hP, hD⟩ := PD_subF (X' := WXY cI cZ cM x0 y0 tx 0 td dr nw ac fa an kp ks sp ss sy sc sd tr ia Ftx lpe ltk lho lli lki lfd lfr lto lse lhl lFho lFli lFki lFfd lFfr lFto lFse lFhl dpe dtk dho dli dki dfd dfr dto dse dhl dFho dFli dFki dFfd dFfr dFto dFse dFhl md mt mr mg mat mfd mhd mFat mFfd mFhd Fac Fkp Fsp Fss Fsy mo rd zd zt zr zg zat zfd zhd zFat zFfd zFhd Frd Fia ype ytk ywi yki yse yno yrh yrw yrk yrt yrp yrq ytx yle yat yfa yby ylo yhi yac ynx yro ygl ysn yso ysp ysw ysd yik ykp Ywi Yki Yse Yno Yrh Yrw Yrk Yrt Ytx Yby Ylo Yhi Yro Ygl Yso Ysp Ysw Yik Ykp) hP hD [55, 0, 1, 2, 3, 4, 5, 6, 7, 8, 9, 10, 11, 12, 13, 14, 15, 16, 17, 18, 19, 20, 21, 22, 23, 24, 25, 26, 27, 28, 29, 30, 31, 32, 33, 34, 35, 36, 37, 38, 39, 40, 41, 42, 43, 44, 45, 46, 47, 48, 49, 50, 51, 52, 53, 54] (by decide +kernel) rfl
  delta WXY at hP hD
  refine W.widen (k := c0) (n := s0) (Nat.le_refl _) (Nat.le_refl _) ?_
  have hw : r_1.toInt = le.toInt := hw
  have hw_3 := hw
  refine lv_pop hx hb dL_law_191 rfl ?_
  refine lv_aload_n hx hb dL_law_192 rfl (lv_at hl 2 rfl) ?_
  refine fV_i (As := []) (rest := []) ⟨hx, hb, hml, hown, hts⟩ (c_X4_wipe l D cI cZ cM y0 ype ytk ywi yki yse yno yrh yrw yrk yrt yrp yrq ytx yle yat yfa yby ylo yhi yac ynx yro ygl ysn yso ysp ysw ysd yik ykp _ ) (cwV 0 hts gL_law_X4_wipe rfl rfl rfl (by decide +kernel) ⟨by rw [hR]; decide, by rw [hR]; decide⟩) hK hP hD hS hA [36] [0, 1, 2, 3, 4, 5, 6, 7, 8, 9, 10, 11, 12, 13, 14, 15, 16, 17, 18, 19, 20, 21, 22, 23, 24, 25, 26, 27, 28, 29, 30, 31, 32, 33, 34, 35, 37, 38, 39, 40, 41, 42, 43, 44, 45, 46, 47, 48, 49, 50, 51, 52, 53, 54, 55] rfl rfl (by decide) (by decide +kernel) (by decide +kernel) rfl 36 rfl hl.1 rfl rfl (Nat.le_of_ble_eq_true rfl) dL_law_193 ⟨by rw [hR]; exact (show _ ≤ 600000 by omega), by rw [hR]; exact (show _ ≤ 7302250 by omega)⟩ (fun r_4 u_5 H locs hw hP hD hS => ?_)
  obtain ⟨hP, hD⟩ := PD_subF (X' := WXY cI cZ cM x0 y0 tx 0 td dr nw ac fa an kp ks sp ss sy sc sd tr ia Ftx lpe ltk lho lli lki lfd lfr lto lse lhl lFho lFli lFki lFfd lFfr lFto lFse lFhl dpe dtk dho dli dki dfd dfr dto dse dhl dFho dFli dFki dFfd dFfr dFto dFse dFhl md mt mr mg mat mfd mhd mFat mFfd mFhd Fac Fkp Fsp Fss Fsy mo rd zd zt zr zg zat zfd zhd zFat zFfd zFhd Frd Fia ype ytk ywi yki yse yno yrh yrw yrk yrt yrp yrq ytx 0 yat yfa yby ylo yhi yac ynx yro ygl ysn yso ysp ysw ysd yik ykp Ywi Yki Yse Yno Yrh Yrw Yrk Yrt Ytx Yby Ylo Yhi Yro Ygl Yso Ysp Ysw Yik Ykp) hP hD [0, 1, 2, 3, 4, 5, 6, 7, 8, 9, 10, 11, 12, 13, 14, 15, 16, 17, 18, 19, 20, 21, 22, 23, 24, 25, 26, 27, 28, 29, 30, 31, 32, 33, 34, 35, 55, 36, 37, 38, 39, 40, 41, 42, 43, 44, 45, 46, 47, 48, 49, 50, 51, 52, 53, 54] (by decide +kernel) rfl
  delta WXY at hP hD
  refine W.widen (k := c0) (n := s0) (Nat.le_refl _) (Nat.le_refl _) ?_
  have hw : r_4.toInt = yle.toInt := hw
  have hw_6 := hw
  refine lv_pop hx hb dL_law_196 rfl ?_
  refine lv_goto (tgt := 969) hx hb dL_law_197 (by decide) ?_
  refine W.widen (k := c0 + 4) (n := s0 + 27) (by omega) (by omega) ?_
  exact hNext _ _ _ (stw_intro hP hD ⟨(by decide), ⟨hfa0, hfa1⟩, ⟨han0, han1⟩, ⟨hsc0, hsc1⟩, ⟨hlpe0, hlpe1⟩, ⟨hltk0, hltk1⟩, ⟨hmd0, hmd1⟩, ⟨hmt0, hmt1⟩, ⟨hype0, hype1⟩, ⟨hytk0, hytk1⟩, (by decide), ⟨hyac0, hyac1⟩, ⟨hynx0, hynx1⟩, ⟨hysn0, hysn1⟩, hPoA, hPoK, hMsO, hByO, rfl, hsd, hTX, hTxO, hlpt, hsct⟩) hS (lv_sub hl [0, 1, 2, 3] rfl)

set_option maxHeartbeats 1000000 in
set_option maxRecDepth 100000 in
theorem law_c2 {p : Program} {l : Launch} {e : Env} {s : State} {m : MethodId} {below : List Frame} {meth : Method} {c : Code} {b LN : Nat} {xs : Nat → Int32} {A : Nat → Prop} {args : Array Value} {R : Room} {Q : State → Prop} (hB : Lb p s m args meth c b xs A LN) (hR : R = room_1) (D : va_G) (cI cZ cM : ClassId) (hK : va_K D vwCl (ty3 cI cZ cM) s) {x0 y0 : Nat} {H : Heap} {locs : List Loc} {ls : Array Slot} {c0 s0 : Nat} (hc : c0 + 4 ≤ 600000) (hs : s0 + 27 ≤ 7302250) {ix : Int32} (hixa : 0 ≤ ix.toInt) (hixb : ix.toInt + 5 ≤ (LN : Int)) (hLN : LN ≤ 320) (hSt : StW D cI cZ cM A x0 y0 H) (hS : va_S A s.heap H locs) (hl : lv_has ls 4 [(0, .ref b), (1, .ref x0), (2, .ref y0), (3, .int ix)]) (hNext : ∀ (H : Heap) (locs : List Loc) (ls : Array Slot), StW D cI cZ cM A x0 y0 H → va_S A s.heap H locs → lv_has ls 4 [(0, .ref b), (1, .ref x0), (2, .ref y0), (3, .int ix)] → W p l e R s m args below meth c H locs (c0 + 4) (s0 + 27) Q (F0 m 969 ls [])) : W p l e R s m args below meth c H locs c0 s0 Q (F0 m 200 ls []) := by
  obtain ⟨hx, hb, hr, hml, hown, hts, hX, hbl, hlocks, hA, hAf⟩ := hB
  have hbA : ¬ A b := fun q => absurd (hAf b q) (Nat.not_le.mpr hbl)
  refine stw_elim hSt ?_
  intro tx le td dr nw ac fa an kp ks sp ss sy sc sd tr ia Ftx lpe ltk lho lli lki lfd lfr lto lse lhl lFho lFli lFki lFfd lFfr lFto lFse lFhl dpe dtk dho dli dki dfd dfr dto dse dhl dFho dFli dFki dFfd dFfr dFto dFse dFhl md mt mr mg mat mfd mhd mFat mFfd mFhd Fac Fkp Fsp Fss Fsy mo rd zd zt zr zg zat zfd zhd zFat zFfd zFhd Frd Fia ype ytk ywi yki yse yno yrh yrw yrk yrt yrp yrq ytx yle yat yfa yby ylo yhi yac ynx yro ygl ysn yso ysp ysw ysd yik ykp Ywi Yki Yse Yno Yrh Yrw Yrk Yrt Ytx Yby Ylo Yhi Yro Ygl Yso Ysp Ysw Yik Ykp L hI hP hD
  obtain ⟨⟨hle0, hle1⟩, ⟨hfa0, hfa1⟩, ⟨han0, han1⟩, ⟨hsc0, hsc1⟩, ⟨hlpe0, hlpe1⟩, ⟨hltk0, hltk1⟩, ⟨hmd0, hmd1⟩, ⟨hmt0, hmt1⟩, ⟨hype0, hype1⟩, ⟨hytk0, hytk1⟩, ⟨hyle0, hyle1⟩, ⟨hyac0, hyac1⟩, ⟨hynx0, hynx1⟩, ⟨hysn0, hysn1⟩, hPoA, hPoK, hMsO, hByO, hle, hsd, hTX, hTxO, hlpt, hsct⟩ := hI
  have hlet : le.toInt = yle.toInt := by rw [hle]
  have hTxY : TxOk Ytx := hTX ▸ hTxO
  have hFL : flt Ytx yle.toInt = flt Ftx le.toInt := by rw [hTX, hle]
  have hFL_1 : (flt Ytx yle.toInt).1 = (flt Ftx le.toInt).1 := by rw [hFL]
  have hFL_2_1 : (flt Ytx yle.toInt).2.1 = (flt Ftx le.toInt).2.1 := by rw [hFL]
  have hFL_2_2 : (flt Ytx yle.toInt).2.2 = (flt Ftx le.toInt).2.2 := by rw [hFL]
  have hsdt : sd.toInt = ysd.toInt := by rw [hsd]
  obtain ⟨a1, ha1⟩ : ∃ z : Int32, xs (ix + 1 : Int32).toNatClampNeg = z := ⟨_, rfl⟩
  obtain ⟨a2, ha2⟩ : ∃ z : Int32, xs (ix + 2 : Int32).toNatClampNeg = z := ⟨_, rfl⟩
  obtain ⟨a3, ha3⟩ : ∃ z : Int32, xs (ix + 3 : Int32).toNatClampNeg = z := ⟨_, rfl⟩
  obtain ⟨a4, ha4⟩ : ∃ z : Int32, xs (ix + 4 : Int32).toNatClampNeg = z := ⟨_, rfl⟩
  refine lv_aload_n hx hb dL_law_200 rfl (lv_at hl 1 rfl) ?_
  refine fV_i (As := []) (rest := []) ⟨hx, hb, hml, hown, hts⟩ (t_X3_fault l D cI cZ cM x0 tx le td dr nw ac fa an kp ks sp ss sy sc sd tr ia Ftx dpe dtk dho dli dki dfd dfr dto dse dhl dFho dFli dFki dFfd dFfr dFto dFse dFhl _ hTxO (show 0 ≤ le.toInt ∧ le.toInt ≤ 64 by omega)) (cwV 0 hts gL_law_X3_fault rfl rfl rfl (by decide +kernel) ⟨by rw [hR]; decide, by rw [hR]; decide⟩) hK hP hD hS hA [0, 1, 11, 12, 13, 14, 15, 16, 17, 18, 19] [2, 3, 4, 5, 6, 7, 8, 9, 10, 20, 21, 22, 23, 24, 25, 26, 27, 28, 29, 30, 31, 32, 33, 34, 35, 36, 37, 38, 39, 40, 41, 42, 43, 44, 45, 46, 47, 48, 49, 50, 51, 52, 53, 54, 55] rfl rfl (by decide) (by decide +kernel) (by decide +kernel) rfl 0 rfl hl.1 rfl rfl (Nat.le_of_ble_eq_true rfl) dL_law_201 ⟨by rw [hR]; exact (show _ ≤ 600000 by omega), by rw [hR]; exact (show _ ≤ 7302250 by omega)⟩ (fun r_11 u_12 H locs hw hP hD hS => ?_)
  obtain ⟨dpe1_1, dtk1_2, Gdho_3, Gdli_4, Gdki_5, Gdfd_6, Gdfr_7, Gdto_8, Gdse_9, Gdhl_10⟩ := u_12
  obtain ⟨hP, hD⟩ := PD_subF (X' := WXY cI cZ cM x0 y0 tx le td dr nw ac fa an kp ks sp ss sy sc sd tr ia Ftx lpe ltk lho lli lki lfd lfr lto lse lhl lFho lFli lFki lFfd lFfr lFto lFse lFhl dpe1_1 dtk1_2 dho dli dki dfd dfr dto dse dhl Gdho_3 Gdli_4 Gdki_5 Gdfd_6 Gdfr_7 Gdto_8 Gdse_9 Gdhl_10 md mt mr mg mat mfd mhd mFat mFfd mFhd Fac Fkp Fsp Fss Fsy mo rd zd zt zr zg zat zfd zhd zFat zFfd zFhd Frd Fia ype ytk ywi yki yse yno yrh yrw yrk yrt yrp yrq ytx yle yat yfa yby ylo yhi yac ynx yro ygl ysn yso ysp ysw ysd yik ykp Ywi Yki Yse Yno Yrh Yrw Yrk Yrt Ytx Yby Ylo Yhi Yro Ygl Yso Ysp Ysw Yik Ykp) hP hD [45, 46, 0, 1, 2, 3, 4, 5, 6, 7, 8, 47, 48, 49, 50, 51, 52, 53, 54, 55, 9, 10, 11, 12, 13, 14, 15, 16, 17, 18, 19, 20, 21, 22, 23, 24, 25, 26, 27, 28, 29, 30, 31, 32, 33, 34, 35, 36, 37, 38, 39, 40, 41, 42, 43, 44] (by decide +kernel) rfl
  delta WXY at hP hD
  refine W.widen (k := c0) (n := s0) (Nat.le_refl _) (Nat.le_refl _) ?_
  have hw : r_11.toInt = (flt Ftx le.toInt).1 ∧ (0 ≤ dpe1_1.toInt ∧ dpe1_1.toInt ≤ 5) ∧ (0 ≤ dtk1_2.toInt ∧ dtk1_2.toInt ≤ 6) := hw
  have hw_13 := hw
  refine lv_pop hx hb dL_law_204 rfl ?_
  refine lv_aload_n hx hb dL_law_205 rfl (lv_at hl 2 rfl) ?_
  refine fV_i (As := []) (rest := []) ⟨hx, hb, hml, hown, hts⟩ (t_X4_fault l D cI cZ cM y0 ype ytk ywi yki yse yno yrh yrw yrk yrt yrp yrq ytx yle yat yfa yby ylo yhi yac ynx yro ygl ysn yso ysp ysw ysd yik ykp Ytx Yrh Yrw Yrk Yrt _ hTxY (show 0 ≤ yle.toInt ∧ yle.toInt ≤ 64 by omega)) (cwV 0 hts gL_law_X4_fault rfl rfl rfl (by decide +kernel) ⟨by rw [hR]; decide, by rw [hR]; decide⟩) hK hP hD hS hA [36, 45, 41, 42, 43, 44] [0, 1, 2, 3, 4, 5, 6, 7, 8, 9, 10, 11, 12, 13, 14, 15, 16, 17, 18, 19, 20, 21, 22, 23, 24, 25, 26, 27, 28, 29, 30, 31, 32, 33, 34, 35, 37, 38, 39, 40, 46, 47, 48, 49, 50, 51, 52, 53, 54, 55] rfl rfl (by decide) (by decide +kernel) (by decide +kernel) rfl 36 rfl hl.1 rfl rfl (Nat.le_of_ble_eq_true rfl) dL_law_206 ⟨by rw [hR]; exact (show _ ≤ 600000 by omega), by rw [hR]; exact (show _ ≤ 7302250 by omega)⟩ (fun r_22 u_23 H locs hw hP hD hS => ?_)
  obtain ⟨rp1_14, rq1_15, at1_16, fa1_17, Grh_18, Grw_19, Grk_20, Grt_21⟩ := u_23
  obtain ⟨hP, hD⟩ := PD_subF (X' := WXY cI cZ cM x0 y0 tx le td dr nw ac fa an kp ks sp ss sy sc sd tr ia Ftx lpe ltk lho lli lki lfd lfr lto lse lhl lFho lFli lFki lFfd lFfr lFto lFse lFhl dpe1_1 dtk1_2 dho dli dki dfd dfr dto dse dhl Gdho_3 Gdli_4 Gdki_5 Gdfd_6 Gdfr_7 Gdto_8 Gdse_9 Gdhl_10 md mt mr mg mat mfd mhd mFat mFfd mFhd Fac Fkp Fsp Fss Fsy mo rd zd zt zr zg zat zfd zhd zFat zFfd zFhd Frd Fia ype ytk ywi yki yse yno yrh yrw yrk yrt rp1_14 rq1_15 ytx yle at1_16 fa1_17 yby ylo yhi yac ynx yro ygl ysn yso ysp ysw ysd yik ykp Ywi Yki Yse Yno Grh_18 Grw_19 Grk_20 Grt_21 Ytx Yby Ylo Yhi Yro Ygl Yso Ysp Ysw Yik Ykp) hP hD [0, 1, 2, 3, 4, 5, 6, 7, 8, 9, 10, 11, 12, 13, 14, 15, 16, 17, 18, 19, 20, 21, 22, 23, 24, 25, 26, 27, 28, 29, 30, 31, 32, 33, 34, 35, 50, 36, 37, 38, 39, 52, 53, 54, 55, 51, 40, 41, 42, 43, 44, 45, 46, 47, 48, 49] (by decide +kernel) rfl
  delta WXY at hP hD
  refine W.widen (k := c0) (n := s0) (Nat.le_refl _) (Nat.le_refl _) ?_
  have hw : r_22.toInt = (flt Ytx yle.toInt).1 := hw
  have hw_24 := hw
  refine lv_pop hx hb dL_law_209 rfl ?_
  refine lv_goto (tgt := 969) hx hb dL_law_210 (by decide) ?_
  refine W.widen (k := c0 + 4) (n := s0 + 27) (by omega) (by omega) ?_
  exact hNext _ _ _ (stw_intro hP hD ⟨⟨hle0, hle1⟩, ⟨hfa0, hfa1⟩, ⟨han0, han1⟩, ⟨hsc0, hsc1⟩, ⟨hlpe0, hlpe1⟩, ⟨hltk0, hltk1⟩, ⟨hmd0, hmd1⟩, ⟨hmt0, hmt1⟩, ⟨hype0, hype1⟩, ⟨hytk0, hytk1⟩, ⟨hyle0, hyle1⟩, ⟨hyac0, hyac1⟩, ⟨hynx0, hynx1⟩, ⟨hysn0, hysn1⟩, hPoA, hPoK, hMsO, hByO, hle, hsd, hTX, hTxO, hlpt, hsct⟩) hS (lv_sub hl [0, 1, 2, 3] rfl)

set_option maxHeartbeats 1000000 in
set_option maxRecDepth 100000 in
theorem law_c3 {p : Program} {l : Launch} {e : Env} {s : State} {m : MethodId} {below : List Frame} {meth : Method} {c : Code} {b LN : Nat} {xs : Nat → Int32} {A : Nat → Prop} {args : Array Value} {R : Room} {Q : State → Prop} (hB : Lb p s m args meth c b xs A LN) (hR : R = room_1) (D : va_G) (cI cZ cM : ClassId) (hK : va_K D vwCl (ty3 cI cZ cM) s) {x0 y0 : Nat} {H : Heap} {locs : List Loc} {ls : Array Slot} {c0 s0 : Nat} (hc : c0 + 4 ≤ 600000) (hs : s0 + 27 ≤ 7302250) {ix : Int32} (hixa : 0 ≤ ix.toInt) (hixb : ix.toInt + 5 ≤ (LN : Int)) (hLN : LN ≤ 320) (hSt : StW D cI cZ cM A x0 y0 H) (hS : va_S A s.heap H locs) (hl : lv_has ls 4 [(0, .ref b), (1, .ref x0), (2, .ref y0), (3, .int ix)]) (hNext : ∀ (H : Heap) (locs : List Loc) (ls : Array Slot), StW D cI cZ cM A x0 y0 H → va_S A s.heap H locs → lv_has ls 4 [(0, .ref b), (1, .ref x0), (2, .ref y0), (3, .int ix)] → W p l e R s m args below meth c H locs (c0 + 4) (s0 + 27) Q (F0 m 969 ls [])) : W p l e R s m args below meth c H locs c0 s0 Q (F0 m 213 ls []) := by
  obtain ⟨hx, hb, hr, hml, hown, hts, hX, hbl, hlocks, hA, hAf⟩ := hB
  have hbA : ¬ A b := fun q => absurd (hAf b q) (Nat.not_le.mpr hbl)
  refine stw_elim hSt ?_
  intro tx le td dr nw ac fa an kp ks sp ss sy sc sd tr ia Ftx lpe ltk lho lli lki lfd lfr lto lse lhl lFho lFli lFki lFfd lFfr lFto lFse lFhl dpe dtk dho dli dki dfd dfr dto dse dhl dFho dFli dFki dFfd dFfr dFto dFse dFhl md mt mr mg mat mfd mhd mFat mFfd mFhd Fac Fkp Fsp Fss Fsy mo rd zd zt zr zg zat zfd zhd zFat zFfd zFhd Frd Fia ype ytk ywi yki yse yno yrh yrw yrk yrt yrp yrq ytx yle yat yfa yby ylo yhi yac ynx yro ygl ysn yso ysp ysw ysd yik ykp Ywi Yki Yse Yno Yrh Yrw Yrk Yrt Ytx Yby Ylo Yhi Yro Ygl Yso Ysp Ysw Yik Ykp L hI hP hD
  obtain ⟨⟨hle0, hle1⟩, ⟨hfa0, hfa1⟩, ⟨han0, han1⟩, ⟨hsc0, hsc1⟩, ⟨hlpe0, hlpe1⟩, ⟨hltk0, hltk1⟩, ⟨hmd0, hmd1⟩, ⟨hmt0, hmt1⟩, ⟨hype0, hype1⟩, ⟨hytk0, hytk1⟩, ⟨hyle0, hyle1⟩, ⟨hyac0, hyac1⟩, ⟨hynx0, hynx1⟩, ⟨hysn0, hysn1⟩, hPoA, hPoK, hMsO, hByO, hle, hsd, hTX, hTxO, hlpt, hsct⟩ := hI
  have hlet : le.toInt = yle.toInt := by rw [hle]
  have hTxY : TxOk Ytx := hTX ▸ hTxO
  have hFL : flt Ytx yle.toInt = flt Ftx le.toInt := by rw [hTX, hle]
  have hFL_1 : (flt Ytx yle.toInt).1 = (flt Ftx le.toInt).1 := by rw [hFL]
  have hFL_2_1 : (flt Ytx yle.toInt).2.1 = (flt Ftx le.toInt).2.1 := by rw [hFL]
  have hFL_2_2 : (flt Ytx yle.toInt).2.2 = (flt Ftx le.toInt).2.2 := by rw [hFL]
  have hsdt : sd.toInt = ysd.toInt := by rw [hsd]
  obtain ⟨a1, ha1⟩ : ∃ z : Int32, xs (ix + 1 : Int32).toNatClampNeg = z := ⟨_, rfl⟩
  obtain ⟨a2, ha2⟩ : ∃ z : Int32, xs (ix + 2 : Int32).toNatClampNeg = z := ⟨_, rfl⟩
  obtain ⟨a3, ha3⟩ : ∃ z : Int32, xs (ix + 3 : Int32).toNatClampNeg = z := ⟨_, rfl⟩
  obtain ⟨a4, ha4⟩ : ∃ z : Int32, xs (ix + 4 : Int32).toNatClampNeg = z := ⟨_, rfl⟩
  refine lv_aload_n hx hb dL_law_213 rfl (lv_at hl 1 rfl) ?_
  refine fV_i (As := []) (rest := []) ⟨hx, hb, hml, hown, hts⟩ (t_X3_line l D cI cZ cM x0 tx le td dr nw ac fa an kp ks sp ss sy sc sd tr ia Ftx dpe dtk dho dli dki dfd dfr dto dse dhl dFho dFli dFki dFfd dFfr dFto dFse dFhl lpe ltk lho lli lki lfd lfr lto lse lhl lFho lFli lFki lFfd lFfr lFto lFse lFhl md mt mr mg mat mfd mhd mFat mFfd mFhd _ hTxO (show 0 ≤ md.toInt ∧ md.toInt ≤ 10 by omega) (show 0 ≤ mt.toInt ∧ mt.toInt ≤ 6 by omega) (show 0 ≤ lpe.toInt ∧ lpe.toInt ≤ 5 by omega) (show 0 ≤ ltk.toInt ∧ ltk.toInt ≤ 6 by omega) (show 0 ≤ le.toInt ∧ le.toInt ≤ 64 by omega) (show 0 ≤ fa.toInt ∧ fa.toInt ≤ 13 by omega) (show 0 ≤ an.toInt ∧ an.toInt ≤ 14 by omega)) (cwV 0 hts gL_law_X3_line rfl rfl rfl (by decide +kernel) ⟨by rw [hR]; decide, by rw [hR]; decide⟩) hK hP hD hS hA [0, 1, 11, 12, 13, 14, 15, 16, 17, 18, 19, 2, 3, 4, 5, 6, 7, 8, 9, 10, 20, 21, 22, 23] [24, 25, 26, 27, 28, 29, 30, 31, 32, 33, 34, 35, 36, 37, 38, 39, 40, 41, 42, 43, 44, 45, 46, 47, 48, 49, 50, 51, 52, 53, 54, 55] rfl rfl (by decide +kernel) (by decide +kernel) (by decide +kernel) rfl 0 rfl hl.1 rfl rfl (Nat.le_of_ble_eq_true rfl) dL_law_214 ⟨by rw [hR]; exact (show _ ≤ 600000 by omega), by rw [hR]; exact (show _ ≤ 7302250 by omega)⟩ (fun r_31 u_32 H locs hw hP hD hS => ?_)
  obtain ⟨fa1_1, an1_2, ks1_3, dpe1_4, dtk1_5, Gdho_6, Gdli_7, Gdki_8, Gdfd_9, Gdfr_10, Gdto_11, Gdse_12, Gdhl_13, lpe1_14, ltk1_15, Glho_16, Glli_17, Glki_18, Glfd_19, Glfr_20, Glto_21, Glse_22, Glhl_23, md1_24, mt1_25, mr1_26, mg1_27, Gmat_28, Gmfd_29, Gmhd_30⟩ := u_32
  obtain ⟨hP, hD⟩ := PD_subF (X' := WXY cI cZ cM x0 y0 tx le td dr nw ac fa1_1 an1_2 kp ks1_3 sp ss sy sc sd tr ia Ftx lpe1_14 ltk1_15 lho lli lki lfd lfr lto lse lhl Glho_16 Glli_17 Glki_18 Glfd_19 Glfr_20 Glto_21 Glse_22 Glhl_23 dpe1_4 dtk1_5 dho dli dki dfd dfr dto dse dhl Gdho_6 Gdli_7 Gdki_8 Gdfd_9 Gdfr_10 Gdto_11 Gdse_12 Gdhl_13 md1_24 mt1_25 mr1_26 mg1_27 mat mfd mhd Gmat_28 Gmfd_29 Gmhd_30 Fac Fkp Fsp Fss Fsy mo rd zd zt zr zg zat zfd zhd zFat zFfd zFhd Frd Fia ype ytk ywi yki yse yno yrh yrw yrk yrt yrp yrq ytx yle yat yfa yby ylo yhi yac ynx yro ygl ysn yso ysp ysw ysd yik ykp Ywi Yki Yse Yno Yrh Yrw Yrk Yrt Ytx Yby Ylo Yhi Yro Ygl Yso Ysp Ysw Yik Ykp) hP hD [32, 33, 43, 44, 45, 46, 47, 48, 49, 50, 51, 34, 35, 36, 37, 38, 39, 40, 41, 42, 52, 53, 54, 55, 0, 1, 2, 3, 4, 5, 6, 7, 8, 9, 10, 11, 12, 13, 14, 15, 16, 17, 18, 19, 20, 21, 22, 23, 24, 25, 26, 27, 28, 29, 30, 31] (by decide +kernel) rfl
  delta WXY at hP hD
  refine W.widen (k := c0) (n := s0) (Nat.le_refl _) (Nat.le_refl _) ?_
  have hw : (((flt Ftx le.toInt).1 ≠ -9 ∧ r_31.toInt = -3 ∧ lpe1_14.toInt = lpe.toInt) ∨ ((flt Ftx le.toInt).1 = -9 ∧ r_31.toInt = 10 * (flt Ftx le.toInt).2.1 + (flt Ftx le.toInt).2.2 ∧ lpe1_14.toInt = (flt Ftx le.toInt).2.1)) ∧ (0 ≤ lpe1_14.toInt ∧ lpe1_14.toInt ≤ 5) ∧ (0 ≤ ltk1_15.toInt ∧ ltk1_15.toInt ≤ 6) ∧ (0 ≤ md1_24.toInt ∧ md1_24.toInt ≤ 10) ∧ (0 ≤ mt1_25.toInt ∧ mt1_25.toInt ≤ 6) ∧ (0 ≤ fa1_1.toInt ∧ fa1_1.toInt ≤ 13) ∧ (0 ≤ an1_2.toInt ∧ an1_2.toInt ≤ 14) := hw
  have hw_33 := hw
  refine lv_pop hx hb dL_law_217 rfl ?_
  refine lv_aload_n hx hb dL_law_218 rfl (lv_at hl 2 rfl) ?_
  refine fV_i (As := []) (rest := []) ⟨hx, hb, hml, hown, hts⟩ (t_X4_line l D cI cZ cM y0 ype ytk ywi yki yse yno yrh yrw yrk yrt yrp yrq ytx yle yat yfa yby ylo yhi yac ynx yro ygl ysn yso ysp ysw ysd yik ykp Ytx Yrh Yrw Yrk Yrt Ywi Yki Yse Yno Yik _ hTxY (show 0 ≤ ype.toInt ∧ ype.toInt ≤ 5 by omega) (show 0 ≤ ytk.toInt ∧ ytk.toInt ≤ 6 by omega) (show 0 ≤ yle.toInt ∧ yle.toInt ≤ 64 by omega) (show 0 ≤ yac.toInt ∧ yac.toInt ≤ 14 by omega)) (cwV 0 hts gL_law_X4_line rfl rfl rfl (by decide +kernel) ⟨by rw [hR]; decide, by rw [hR]; decide⟩) hK hP hD hS hA [36, 45, 41, 42, 43, 44, 37, 38, 39, 40, 54] [0, 1, 2, 3, 4, 5, 6, 7, 8, 9, 10, 11, 12, 13, 14, 15, 16, 17, 18, 19, 20, 21, 22, 23, 24, 25, 26, 27, 28, 29, 30, 31, 32, 33, 34, 35, 46, 47, 48, 49, 50, 51, 52, 53, 55] rfl rfl (by decide) (by decide +kernel) (by decide +kernel) rfl 36 rfl hl.1 rfl rfl (Nat.le_of_ble_eq_true rfl) dL_law_219 ⟨by rw [hR]; exact (show _ ≤ 600000 by omega), by rw [hR]; exact (show _ ≤ 7302250 by omega)⟩ (fun r_50 u_51 H locs hw hP hD hS => ?_)
  obtain ⟨pe1_34, tk1_35, rp1_36, rq1_37, at1_38, fa1_39, ac1_40, Grh_41, Grw_42, Grk_43, Grt_44, Gwi_45, Gki_46, Gse_47, Gno_48, Gik_49⟩ := u_51
  obtain ⟨hP, hD⟩ := PD_subF (X' := WXY cI cZ cM x0 y0 tx le td dr nw ac fa1_1 an1_2 kp ks1_3 sp ss sy sc sd tr ia Ftx lpe1_14 ltk1_15 lho lli lki lfd lfr lto lse lhl Glho_16 Glli_17 Glki_18 Glfd_19 Glfr_20 Glto_21 Glse_22 Glhl_23 dpe1_4 dtk1_5 dho dli dki dfd dfr dto dse dhl Gdho_6 Gdli_7 Gdki_8 Gdfd_9 Gdfr_10 Gdto_11 Gdse_12 Gdhl_13 md1_24 mt1_25 mr1_26 mg1_27 mat mfd mhd Gmat_28 Gmfd_29 Gmhd_30 Fac Fkp Fsp Fss Fsy mo rd zd zt zr zg zat zfd zhd zFat zFfd zFhd Frd Fia pe1_34 tk1_35 ywi yki yse yno yrh yrw yrk yrt rp1_36 rq1_37 ytx yle at1_38 fa1_39 yby ylo yhi ac1_40 ynx yro ygl ysn yso ysp ysw ysd yik ykp Gwi_45 Gki_46 Gse_47 Gno_48 Grh_41 Grw_42 Grk_43 Grt_44 Ytx Yby Ylo Yhi Yro Ygl Yso Ysp Ysw Gik_49 Ykp) hP hD [0, 1, 2, 3, 4, 5, 6, 7, 8, 9, 10, 11, 12, 13, 14, 15, 16, 17, 18, 19, 20, 21, 22, 23, 24, 25, 26, 27, 28, 29, 30, 31, 32, 33, 34, 35, 45, 51, 52, 53, 54, 47, 48, 49, 50, 46, 36, 37, 38, 39, 40, 41, 42, 43, 55, 44] (by decide +kernel) rfl
  delta WXY at hP hD
  refine W.widen (k := c0) (n := s0) (Nat.le_refl _) (Nat.le_refl _) ?_
  have hw : (((flt Ytx yle.toInt).1 ≠ -9 ∧ r_50.toInt = -3 ∧ pe1_34.toInt = ype.toInt) ∨ ((flt Ytx yle.toInt).1 = -9 ∧ r_50.toInt = 10 * (flt Ytx yle.toInt).2.1 + (flt Ytx yle.toInt).2.2 ∧ pe1_34.toInt = (flt Ytx yle.toInt).2.1)) ∧ (0 ≤ pe1_34.toInt ∧ pe1_34.toInt ≤ 5) ∧ (0 ≤ tk1_35.toInt ∧ tk1_35.toInt ≤ 6) ∧ (0 ≤ ac1_40.toInt ∧ ac1_40.toInt ≤ 14) := hw
  have hw_52 := hw
  refine lv_pop hx hb dL_law_222 rfl ?_
  refine lv_goto (tgt := 969) hx hb dL_law_223 (by decide) ?_
  refine W.widen (k := c0 + 4) (n := s0 + 27) (by omega) (by omega) ?_
  exact hNext _ _ _ (stw_intro hP hD ⟨⟨hle0, hle1⟩, (show 0 ≤ fa1_1.toInt ∧ fa1_1.toInt ≤ 13 by omega), (show 0 ≤ an1_2.toInt ∧ an1_2.toInt ≤ 14 by omega), ⟨hsc0, hsc1⟩, (show 0 ≤ lpe1_14.toInt ∧ lpe1_14.toInt ≤ 5 by omega), (show 0 ≤ ltk1_15.toInt ∧ ltk1_15.toInt ≤ 6 by omega), (show 0 ≤ md1_24.toInt ∧ md1_24.toInt ≤ 10 by omega), (show 0 ≤ mt1_25.toInt ∧ mt1_25.toInt ≤ 6 by omega), (show 0 ≤ pe1_34.toInt ∧ pe1_34.toInt ≤ 5 by omega), (show 0 ≤ tk1_35.toInt ∧ tk1_35.toInt ≤ 6 by omega), ⟨hyle0, hyle1⟩, (show 0 ≤ ac1_40.toInt ∧ ac1_40.toInt ≤ 14 by omega), ⟨hynx0, hynx1⟩, ⟨hysn0, hysn1⟩, hPoA, hPoK, hMsO, hByO, hle, hsd, hTX, hTxO, (show lpe1_14.toInt = pe1_34.toInt by omega), hsct⟩) hS (lv_sub hl [0, 1, 2, 3] rfl)

set_option maxHeartbeats 1000000 in
set_option maxRecDepth 100000 in
theorem law_c4 {p : Program} {l : Launch} {e : Env} {s : State} {m : MethodId} {below : List Frame} {meth : Method} {c : Code} {b LN : Nat} {xs : Nat → Int32} {A : Nat → Prop} {args : Array Value} {R : Room} {Q : State → Prop} (hB : Lb p s m args meth c b xs A LN) (hR : R = room_1) (D : va_G) (cI cZ cM : ClassId) (hK : va_K D vwCl (ty3 cI cZ cM) s) {x0 y0 : Nat} {H : Heap} {locs : List Loc} {ls : Array Slot} {c0 s0 : Nat} (hc : c0 + 4 ≤ 600000) (hs : s0 + 27 ≤ 7302250) {ix : Int32} (hixa : 0 ≤ ix.toInt) (hixb : ix.toInt + 5 ≤ (LN : Int)) (hLN : LN ≤ 320) (hSt : StW D cI cZ cM A x0 y0 H) (hS : va_S A s.heap H locs) (hl : lv_has ls 4 [(0, .ref b), (1, .ref x0), (2, .ref y0), (3, .int ix)]) (hNext : ∀ (H : Heap) (locs : List Loc) (ls : Array Slot), StW D cI cZ cM A x0 y0 H → va_S A s.heap H locs → lv_has ls 4 [(0, .ref b), (1, .ref x0), (2, .ref y0), (3, .int ix)] → W p l e R s m args below meth c H locs (c0 + 4) (s0 + 27) Q (F0 m 969 ls [])) : W p l e R s m args below meth c H locs c0 s0 Q (F0 m 226 ls []) := by
  obtain ⟨hx, hb, hr, hml, hown, hts, hX, hbl, hlocks, hA, hAf⟩ := hB
  have hbA : ¬ A b := fun q => absurd (hAf b q) (Nat.not_le.mpr hbl)
  refine stw_elim hSt ?_
  intro tx le td dr nw ac fa an kp ks sp ss sy sc sd tr ia Ftx lpe ltk lho lli lki lfd lfr lto lse lhl lFho lFli lFki lFfd lFfr lFto lFse lFhl dpe dtk dho dli dki dfd dfr dto dse dhl dFho dFli dFki dFfd dFfr dFto dFse dFhl md mt mr mg mat mfd mhd mFat mFfd mFhd Fac Fkp Fsp Fss Fsy mo rd zd zt zr zg zat zfd zhd zFat zFfd zFhd Frd Fia ype ytk ywi yki yse yno yrh yrw yrk yrt yrp yrq ytx yle yat yfa yby ylo yhi yac ynx yro ygl ysn yso ysp ysw ysd yik ykp Ywi Yki Yse Yno Yrh Yrw Yrk Yrt Ytx Yby Ylo Yhi Yro Ygl Yso Ysp Ysw Yik Ykp L hI hP hD
  obtain ⟨⟨hle0, hle1⟩, ⟨hfa0, hfa1⟩, ⟨han0, han1⟩, ⟨hsc0, hsc1⟩, ⟨hlpe0, hlpe1⟩, ⟨hltk0, hltk1⟩, ⟨hmd0, hmd1⟩, ⟨hmt0, hmt1⟩, ⟨hype0, hype1⟩, ⟨hytk0, hytk1⟩, ⟨hyle0, hyle1⟩, ⟨hyac0, hyac1⟩, ⟨hynx0, hynx1⟩, ⟨hysn0, hysn1⟩, hPoA, hPoK, hMsO, hByO, hle, hsd, hTX, hTxO, hlpt, hsct⟩ := hI
  have hlet : le.toInt = yle.toInt := by rw [hle]
  have hTxY : TxOk Ytx := hTX ▸ hTxO
  have hFL : flt Ytx yle.toInt = flt Ftx le.toInt := by rw [hTX, hle]
  have hFL_1 : (flt Ytx yle.toInt).1 = (flt Ftx le.toInt).1 := by rw [hFL]
  have hFL_2_1 : (flt Ytx yle.toInt).2.1 = (flt Ftx le.toInt).2.1 := by rw [hFL]
  have hFL_2_2 : (flt Ytx yle.toInt).2.2 = (flt Ftx le.toInt).2.2 := by rw [hFL]
  have hsdt : sd.toInt = ysd.toInt := by rw [hsd]
  obtain ⟨a1, ha1⟩ : ∃ z : Int32, xs (ix + 1 : Int32).toNatClampNeg = z := ⟨_, rfl⟩
  obtain ⟨a2, ha2⟩ : ∃ z : Int32, xs (ix + 2 : Int32).toNatClampNeg = z := ⟨_, rfl⟩
  obtain ⟨a3, ha3⟩ : ∃ z : Int32, xs (ix + 3 : Int32).toNatClampNeg = z := ⟨_, rfl⟩
  obtain ⟨a4, ha4⟩ : ∃ z : Int32, xs (ix + 4 : Int32).toNatClampNeg = z := ⟨_, rfl⟩
  refine lv_aload_n hx hb dL_law_226 rfl (lv_at hl 1 rfl) ?_
  refine lv_aload_n hx hb dL_law_227 rfl (lv_at hl 0 rfl) ?_
  refine lv_iload_n hx hb dL_law_228 rfl (lv_at hl 3 rfl) ?_
  refine lv_iconst (v := 1) hx hb dL_law_229 (by decide) ?_
  refine lv_iadd hx hb dL_law_230 ?_
  refine lv_topi (fun v_1 ev_1 => ?_)
  have tv_1 : v_1.toInt = ix.toInt + (1 : Int) := by rw [ev_1]; exact ti_add (x := ix) (y := 1) (show -2147483648 ≤ ix.toInt + (1 : Int) by omega) (show ix.toInt + (1 : Int) < 2147483648 by omega)
  refine va_sld hx hb hX hbl hbA hS (vp_in_iff.mpr ⟨by omega, by omega⟩) dL_law_231 ?_
  refine lv_topc (y := a1) (by rw [ev_1]; exact ha1) ?_
  refine lv_aload_n hx hb dL_law_232 rfl (lv_at hl 0 rfl) ?_
  refine lv_iload_n hx hb dL_law_233 rfl (lv_at hl 3 rfl) ?_
  refine lv_iconst (v := 2) hx hb dL_law_234 (by decide) ?_
  refine lv_iadd hx hb dL_law_235 ?_
  refine lv_topi (fun v_2 ev_2 => ?_)
  have tv_2 : v_2.toInt = ix.toInt + (2 : Int) := by rw [ev_2]; exact ti_add (x := ix) (y := 2) (show -2147483648 ≤ ix.toInt + (2 : Int) by omega) (show ix.toInt + (2 : Int) < 2147483648 by omega)
  refine va_sld hx hb hX hbl hbA hS (vp_in_iff.mpr ⟨by omega, by omega⟩) dL_law_236 ?_
  refine lv_topc (y := a2) (by rw [ev_2]; exact ha2) ?_
  refine fV_i (As := [.int a1, .int a2]) (rest := []) ⟨hx, hb, hml, hown, hts⟩ (c_X3_person l D cI cZ cM x0 a1 a2 tx le td dr nw ac fa an kp ks sp ss sy sc sd tr ia lpe ltk lho lli lki lfd lfr lto lse lhl lFto lFfr lFki lFli md mt mr mg mat mfd mhd mFat mFfd mFhd mo rd Frd _ (show 0 ≤ mt.toInt ∧ mt.toInt ≤ 6 by omega) (show 0 ≤ lpe.toInt ∧ lpe.toInt ≤ 5 by omega)) (cwV 2 hts gL_law_X3_person rfl rfl rfl (by decide +kernel) ⟨by rw [hR]; decide, by rw [hR]; decide⟩) hK hP hD hS hA [0, 2, 8, 7, 5, 4, 20, 21, 22, 23, 29, 34] [1, 3, 6, 9, 10, 11, 12, 13, 14, 15, 16, 17, 18, 19, 24, 25, 26, 27, 28, 30, 31, 32, 33, 35, 36, 37, 38, 39, 40, 41, 42, 43, 44, 45, 46, 47, 48, 49, 50, 51, 52, 53, 54, 55] rfl rfl (by decide) (by decide +kernel) (by decide +kernel) rfl 0 rfl hl.1 rfl rfl (Nat.le_of_ble_eq_true rfl) dL_law_237 ⟨by rw [hR]; exact (show _ ≤ 600000 by omega), by rw [hR]; exact (show _ ≤ 7302250 by omega)⟩ (fun r_4 u_5 H locs hw hP hD hS => ?_)
  obtain ⟨Grd_3, rfl⟩ : ∃ z, z = u_5 := ⟨_, rfl⟩
  obtain ⟨hP, hD⟩ := PD_subF (X' := WXY cI cZ cM x0 y0 tx le td dr nw ac fa an kp ks sp ss sy sc sd tr ia Ftx lpe ltk lho lli lki lfd lfr lto lse lhl lFho lFli lFki lFfd lFfr lFto lFse lFhl dpe dtk dho dli dki dfd dfr dto dse dhl dFho dFli dFki dFfd dFfr dFto dFse dFhl md mt mr mg mat mfd mhd mFat mFfd mFhd Fac Fkp Fsp Fss Fsy mo rd zd zt zr zg zat zfd zhd zFat zFfd zFhd Grd_3 Fia ype ytk ywi yki yse yno yrh yrw yrk yrt yrp yrq ytx yle yat yfa yby ylo yhi yac ynx yro ygl ysn yso ysp ysw ysd yik ykp Ywi Yki Yse Yno Yrh Yrw Yrk Yrt Ytx Yby Ylo Yhi Yro Ygl Yso Ysp Ysw Yik Ykp) hP hD [44, 0, 45, 1, 49, 48, 2, 47, 46, 3, 4, 5, 6, 7, 8, 9, 10, 11, 12, 13, 50, 51, 52, 53, 14, 15, 16, 17, 18, 54, 19, 20, 21, 22, 55, 23, 24, 25, 26, 27, 28, 29, 30, 31, 32, 33, 34, 35, 36, 37, 38, 39, 40, 41, 42, 43] (by decide +kernel) rfl
  delta WXY at hP hD
  refine W.widen (k := c0) (n := s0) (Nat.le_refl _) (Nat.le_refl _) ?_
  refine lv_pop hx hb dL_law_240 rfl ?_
  refine lv_aload_n hx hb dL_law_241 rfl (lv_at hl 2 rfl) ?_
  refine lv_aload_n hx hb dL_law_242 rfl (lv_at hl 0 rfl) ?_
  refine lv_iload_n hx hb dL_law_243 rfl (lv_at hl 3 rfl) ?_
  refine lv_iconst (v := 1) hx hb dL_law_244 (by decide) ?_
  refine lv_iadd hx hb dL_law_245 ?_
  refine lv_topi (fun v_6 ev_6 => ?_)
  have tv_6 : v_6.toInt = ix.toInt + (1 : Int) := by rw [ev_6]; exact ti_add (x := ix) (y := 1) (show -2147483648 ≤ ix.toInt + (1 : Int) by omega) (show ix.toInt + (1 : Int) < 2147483648 by omega)
  refine va_sld hx hb hX hbl hbA hS (vp_in_iff.mpr ⟨by omega, by omega⟩) dL_law_246 ?_
  refine lv_topc (y := a1) (by rw [ev_6]; exact ha1) ?_
  refine lv_aload_n hx hb dL_law_247 rfl (lv_at hl 0 rfl) ?_
  refine lv_iload_n hx hb dL_law_248 rfl (lv_at hl 3 rfl) ?_
  refine lv_iconst (v := 2) hx hb dL_law_249 (by decide) ?_
  refine lv_iadd hx hb dL_law_250 ?_
  refine lv_topi (fun v_7 ev_7 => ?_)
  have tv_7 : v_7.toInt = ix.toInt + (2 : Int) := by rw [ev_7]; exact ti_add (x := ix) (y := 2) (show -2147483648 ≤ ix.toInt + (2 : Int) by omega) (show ix.toInt + (2 : Int) < 2147483648 by omega)
  refine va_sld hx hb hX hbl hbA hS (vp_in_iff.mpr ⟨by omega, by omega⟩) dL_law_251 ?_
  refine lv_topc (y := a2) (by rw [ev_7]; exact ha2) ?_
  refine fV_i (As := [.int a1, .int a2]) (rest := []) ⟨hx, hb, hml, hown, hts⟩ (c_X4_person l D cI cZ cM y0 a1 a2 ype ytk ywi yki yse yno yrh yrw yrk yrt yrp yrq ytx yle yat yfa yby ylo yhi yac ynx yro ygl ysn yso ysp ysw ysd yik ykp Yno Ywi Yki _ (show 0 ≤ ype.toInt ∧ ype.toInt ≤ 5 by omega) (show 0 ≤ ytk.toInt ∧ ytk.toInt ≤ 6 by omega)) (cwV 2 hts gL_law_X4_person rfl rfl rfl (by decide +kernel) ⟨by rw [hR]; decide, by rw [hR]; decide⟩) hK hP hD hS hA [36, 40, 37, 38] [0, 1, 2, 3, 4, 5, 6, 7, 8, 9, 10, 11, 12, 13, 14, 15, 16, 17, 18, 19, 20, 21, 22, 23, 24, 25, 26, 27, 28, 29, 30, 31, 32, 33, 34, 35, 39, 41, 42, 43, 44, 45, 46, 47, 48, 49, 50, 51, 52, 53, 54, 55] rfl rfl (by decide) (by decide +kernel) (by decide +kernel) rfl 36 rfl hl.1 rfl rfl (Nat.le_of_ble_eq_true rfl) dL_law_252 ⟨by rw [hR]; exact (show _ ≤ 600000 by omega), by rw [hR]; exact (show _ ≤ 7302250 by omega)⟩ (fun r_8 u_9 H locs hw hP hD hS => ?_)
  obtain ⟨hP, hD⟩ := PD_subF (X' := WXY cI cZ cM x0 y0 tx le td dr nw ac fa an kp ks sp ss sy sc sd tr ia Ftx lpe ltk lho lli lki lfd lfr lto lse lhl lFho lFli lFki lFfd lFfr lFto lFse lFhl dpe dtk dho dli dki dfd dfr dto dse dhl dFho dFli dFki dFfd dFfr dFto dFse dFhl md mt mr mg mat mfd mhd mFat mFfd mFhd Fac Fkp Fsp Fss Fsy mo rd zd zt zr zg zat zfd zhd zFat zFfd zFhd Grd_3 Fia ype ytk ywi yki yse yno yrh yrw yrk yrt yrp yrq ytx yle yat yfa yby ylo yhi yac ynx yro ygl ysn yso ysp ysw ysd yik ykp Ywi Yki Yse Yno Yrh Yrw Yrk Yrt Ytx Yby Ylo Yhi Yro Ygl Yso Ysp Ysw Yik Ykp) hP hD [0, 1, 2, 3, 4, 5, 6, 7, 8, 9, 10, 11, 12, 13, 14, 15, 16, 17, 18, 19, 20, 21, 22, 23, 24, 25, 26, 27, 28, 29, 30, 31, 32, 33, 34, 35, 52, 54, 55, 36, 53, 37, 38, 39, 40, 41, 42, 43, 44, 45, 46, 47, 48, 49, 50, 51] (by decide +kernel) rfl
  delta WXY at hP hD
  refine W.widen (k := c0) (n := s0) (Nat.le_refl _) (Nat.le_refl _) ?_
  refine lv_pop hx hb dL_law_255 rfl ?_
  refine lv_goto (tgt := 969) hx hb dL_law_256 (by decide) ?_
  refine W.widen (k := c0 + 4) (n := s0 + 27) (by omega) (by omega) ?_
  exact hNext _ _ _ (stw_intro hP hD ⟨⟨hle0, hle1⟩, ⟨hfa0, hfa1⟩, ⟨han0, han1⟩, ⟨hsc0, hsc1⟩, ⟨hlpe0, hlpe1⟩, ⟨hltk0, hltk1⟩, ⟨hmd0, hmd1⟩, ⟨hmt0, hmt1⟩, ⟨hype0, hype1⟩, ⟨hytk0, hytk1⟩, ⟨hyle0, hyle1⟩, ⟨hyac0, hyac1⟩, ⟨hynx0, hynx1⟩, ⟨hysn0, hysn1⟩, hPoA, hPoK, hMsO, hByO, hle, hsd, hTX, hTxO, hlpt, hsct⟩) hS (lv_sub hl [0, 1, 2, 3] rfl)
