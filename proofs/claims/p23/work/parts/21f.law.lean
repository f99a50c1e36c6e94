set_option maxRecDepth 20000 in
theorem ggL_law_X3_years : GoodIn wsL_law wsX3_years := goodIn_r _ [717, 34, 718, 719, 720, 38, 24, 385, 344, 386, 387, 388, 37, 389, 72, 390, 296, 297, 23, 298, 57, 58, 59, 60, 61, 180, 171, 172, 173, 62, 63, 505, 506, 507, 508, 509, 392, 393, 394, 395, 69, 396, 300, 301, 302, 64, 303, 304, 218, 219, 220, 221, 201, 202, 18, 203, 43, 222, 223, 224, 225, 226, 227, 228, 305, 257, 258, 259, 306, 269, 270, 271, 264, 265, 266, 267, 307, 308, 309, 310, 510, 511, 512, 513, 514, 757, 758, 759, 760, 761, 762, 763, 764, 765, 766, 767, 768, 769, 770, 771, 772, 773, 822, 823, 824, 814, 815, 816, 817, 818, 819, 820, 821, 804, 805, 806, 807, 808, 809, 810, 811, 812, 813] rfl (by decide +kernel)
set_option maxRecDepth 20000 in
theorem gL_law_X3_years : GoodIn wsL_law (wsV RL 123 RX3 yX3_years wsX3_years) := goodIn_app (goodIn_r _ [714, 715, 716, 2] rfl (by decide +kernel)) ggL_law_X3_years
set_option maxRecDepth 20000 in
theorem ggL_law_X4_years : GoodIn wsL_law wsX4_years := goodIn_r _ [724, 725, 713, 726, 727, 728, 109, 110, 5, 111, 519, 520, 521, 522, 191, 402, 403, 404, 405, 81, 523, 524, 525, 526, 527, 528, 529, 530, 320, 321, 322, 323, 98, 87, 88, 89, 245, 246, 247, 248, 79, 324, 325, 326, 327, 531, 532, 533, 534, 535, 536, 537, 78, 774, 775, 776, 777, 778, 779, 780, 781, 782, 783, 784, 785, 786, 787, 788, 789, 790, 791, 792, 793, 794, 795, 796, 797, 798, 799, 800, 801, 802, 803] rfl (by decide +kernel)
set_option maxRecDepth 20000 in
theorem gL_law_X4_years : GoodIn wsL_law (wsV RL 126 RX4 yX4_years wsX4_years) := goodIn_app (goodIn_r _ [721, 722, 723, 5] rfl (by decide +kernel)) ggL_law_X4_years
set_option maxRecDepth 20000 in
theorem ggL_law_X3_keep : GoodIn wsL_law wsX3_keep := goodIn_r _ [732, 28, 29, 24, 286, 733, 734, 2, 735, 291, 292, 293, 294, 21, 22, 23, 19, 53, 54, 55, 56, 11, 12, 57, 58, 59, 60, 13, 61, 62, 63, 64, 295, 296, 297, 298, 180, 171, 172, 173, 757, 758, 759, 760, 761, 762, 763, 764, 765, 766, 767, 768, 769, 770, 771, 772, 773, 814, 815, 816, 817, 818, 819, 820, 821] rfl (by decide +kernel)
set_option maxRecDepth 20000 in
theorem gL_law_X3_keep : GoodIn wsL_law (wsV RL 127 RX3 yX3_keep wsX3_keep) := goodIn_app (goodIn_r _ [729, 730, 731, 2] rfl (by decide +kernel)) ggL_law_X3_keep
set_option maxRecDepth 20000 in
theorem ggL_law_X4_keep : GoodIn wsL_law wsX4_keep := goodIn_r _ [739, 96, 97, 81, 109, 110, 5, 111, 774, 775, 776, 777, 778, 779, 780, 781, 782, 783, 784, 785, 786, 787, 788, 789, 790, 791, 792, 793, 794, 795, 796, 797, 798, 799, 800, 801, 802, 803] rfl (by decide +kernel)
set_option maxRecDepth 20000 in
theorem gL_law_X4_keep : GoodIn wsL_law (wsV RL 130 RX4 yX4_keep wsX4_keep) := goodIn_app (goodIn_r _ [736, 737, 738, 5] rfl (by decide +kernel)) ggL_law_X4_keep
set_option maxRecDepth 20000 in
theorem ggL_law_X3_again : GoodIn wsL_law wsX3_again := goodIn_r _ [743, 28, 29, 24, 286, 733, 734, 2, 735, 295, 296, 297, 23, 298, 57, 58, 59, 60, 61, 180, 171, 172, 173, 62, 63, 183, 184, 185, 186, 26, 27, 757, 758, 759, 760, 761, 762, 763, 764, 765, 766, 767, 768, 769, 770, 771, 772, 773, 814, 815, 816, 817, 818, 819, 820, 821] rfl (by decide +kernel)
set_option maxRecDepth 20000 in
theorem gL_law_X3_again : GoodIn wsL_law (wsV RL 131 RX3 yX3_again wsX3_again) := goodIn_app (goodIn_r _ [740, 741, 742, 2] rfl (by decide +kernel)) ggL_law_X3_again
set_option maxRecDepth 20000 in
theorem ggL_law_X4_again : GoodIn wsL_law wsX4_again := goodIn_r _ [747, 96, 81, 97, 192, 109, 110, 5, 111, 774, 775, 776, 777, 778, 779, 780, 781, 782, 783, 784, 785, 786, 787, 788, 789, 790, 791, 792, 793, 794, 795, 796, 797, 798, 799, 800, 801, 802, 803] rfl (by decide +kernel)
set_option maxRecDepth 20000 in
theorem gL_law_X4_again : GoodIn wsL_law (wsV RL 134 RX4 yX4_again wsX4_again) := goodIn_app (goodIn_r _ [744, 745, 746, 5] rfl (by decide +kernel)) ggL_law_X4_again
set_option maxRecDepth 20000 in
theorem ggL_law_X3_count : GoodIn wsL_law wsX3_count := goodIn_r _ [751, 15, 19, 164, 165, 24, 286, 344, 27, 33, 752, 511, 512, 23, 513, 64, 303, 61, 514, 757, 758, 759, 760, 761, 762, 763, 764, 765, 766, 767, 768, 769, 770, 771, 772, 773, 804, 805, 806, 807, 808, 809, 810, 811, 812, 813, 814, 815, 816, 817, 818, 819, 820, 821] rfl (by decide +kernel)
set_option maxRecDepth 20000 in
theorem gL_law_X3_count : GoodIn wsL_law (wsV RL 135 RX3 yX3_count wsX3_count) := goodIn_app (goodIn_r _ [748, 749, 750, 2] rfl (by decide +kernel)) ggL_law_X3_count
set_option maxRecDepth 20000 in
theorem ggL_law_X4_count : GoodIn wsL_law wsX4_count := goodIn_r _ [756, 98, 81, 78, 108, 191, 192, 661, 600, 601, 602, 5, 603, 237, 238, 239, 240, 774, 775, 776, 777, 778, 779, 780, 781, 782, 783, 784, 785, 786, 787, 788, 789, 790, 791, 792, 793, 794, 795, 796, 797, 798, 799, 800, 801, 802, 803] rfl (by decide +kernel)
set_option maxRecDepth 20000 in
theorem gL_law_X4_count : GoodIn wsL_law (wsV RL 138 RX4 yX4_count wsX4_count) := goodIn_app (goodIn_r _ [753, 754, 755, 5] rfl (by decide +kernel)) ggL_law_X4_count
theorem dL_law_877 : decode cL_law 877 = .ok (.aload_n 1, 1) := by decide +kernel
theorem dL_law_878 : decode cL_law 878 = .ok (.aload_n 0, 1) := by decide +kernel
theorem dL_law_879 : decode cL_law 879 = .ok (.iload_n 3, 1) := by decide +kernel
theorem dL_law_880 : decode cL_law 880 = .ok (.iconst 1, 1) := by decide +kernel
theorem dL_law_881 : decode cL_law 881 = .ok (.iadd, 1) := by decide +kernel
theorem dL_law_882 : decode cL_law 882 = .ok (.iaload, 1) := by decide +kernel
theorem dL_law_883 : decode cL_law 883 = .ok (.invokevirtual 123, 3) := by decide +kernel
theorem dL_law_886 : decode cL_law 886 = .ok (.pop, 1) := by decide +kernel
theorem dL_law_887 : decode cL_law 887 = .ok (.aload_n 2, 1) := by decide +kernel
theorem dL_law_888 : decode cL_law 888 = .ok (.aload_n 0, 1) := by decide +kernel
theorem dL_law_889 : decode cL_law 889 = .ok (.iload_n 3, 1) := by decide +kernel
theorem dL_law_890 : decode cL_law 890 = .ok (.iconst 1, 1) := by decide +kernel
theorem dL_law_891 : decode cL_law 891 = .ok (.iadd, 1) := by decide +kernel
theorem dL_law_892 : decode cL_law 892 = .ok (.iaload, 1) := by decide +kernel
theorem dL_law_893 : decode cL_law 893 = .ok (.invokevirtual 126, 3) := by decide +kernel
theorem dL_law_896 : decode cL_law 896 = .ok (.pop, 1) := by decide +kernel
theorem dL_law_897 : decode cL_law 897 = .ok (.goto 72, 3) := by decide +kernel
theorem dL_law_900 : decode cL_law 900 = .ok (.aload_n 1, 1) := by decide +kernel
theorem dL_law_901 : decode cL_law 901 = .ok (.aload_n 0, 1) := by decide +kernel
theorem dL_law_902 : decode cL_law 902 = .ok (.iload_n 3, 1) := by decide +kernel
theorem dL_law_903 : decode cL_law 903 = .ok (.iconst 1, 1) := by decide +kernel
theorem dL_law_904 : decode cL_law 904 = .ok (.iadd, 1) := by decide +kernel
theorem dL_law_905 : decode cL_law 905 = .ok (.iaload, 1) := by decide +kernel
theorem dL_law_906 : decode cL_law 906 = .ok (.invokevirtual 127, 3) := by decide +kernel
theorem dL_law_909 : decode cL_law 909 = .ok (.pop, 1) := by decide +kernel
theorem dL_law_910 : decode cL_law 910 = .ok (.aload_n 2, 1) := by decide +kernel
theorem dL_law_911 : decode cL_law 911 = .ok (.aload_n 0, 1) := by decide +kernel
theorem dL_law_912 : decode cL_law 912 = .ok (.iload_n 3, 1) := by decide +kernel
theorem dL_law_913 : decode cL_law 913 = .ok (.iconst 1, 1) := by decide +kernel
theorem dL_law_914 : decode cL_law 914 = .ok (.iadd, 1) := by decide +kernel
theorem dL_law_915 : decode cL_law 915 = .ok (.iaload, 1) := by decide +kernel
theorem dL_law_916 : decode cL_law 916 = .ok (.invokevirtual 130, 3) := by decide +kernel
theorem dL_law_919 : decode cL_law 919 = .ok (.pop, 1) := by decide +kernel
theorem dL_law_920 : decode cL_law 920 = .ok (.goto 49, 3) := by decide +kernel
theorem dL_law_923 : decode cL_law 923 = .ok (.aload_n 1, 1) := by decide +kernel
theorem dL_law_924 : decode cL_law 924 = .ok (.aload_n 0, 1) := by decide +kernel
theorem dL_law_925 : decode cL_law 925 = .ok (.iload_n 3, 1) := by decide +kernel
theorem dL_law_926 : decode cL_law 926 = .ok (.iconst 1, 1) := by decide +kernel
theorem dL_law_927 : decode cL_law 927 = .ok (.iadd, 1) := by decide +kernel
theorem dL_law_928 : decode cL_law 928 = .ok (.iaload, 1) := by decide +kernel
theorem dL_law_929 : decode cL_law 929 = .ok (.invokevirtual 131, 3) := by decide +kernel
theorem dL_law_932 : decode cL_law 932 = .ok (.pop, 1) := by decide +kernel
theorem dL_law_933 : decode cL_law 933 = .ok (.aload_n 2, 1) := by decide +kernel
theorem dL_law_934 : decode cL_law 934 = .ok (.aload_n 0, 1) := by decide +kernel
theorem dL_law_935 : decode cL_law 935 = .ok (.iload_n 3, 1) := by decide +kernel
theorem dL_law_936 : decode cL_law 936 = .ok (.iconst 1, 1) := by decide +kernel
theorem dL_law_937 : decode cL_law 937 = .ok (.iadd, 1) := by decide +kernel
theorem dL_law_938 : decode cL_law 938 = .ok (.iaload, 1) := by decide +kernel
theorem dL_law_939 : decode cL_law 939 = .ok (.invokevirtual 134, 3) := by decide +kernel
theorem dL_law_942 : decode cL_law 942 = .ok (.pop, 1) := by decide +kernel
theorem dL_law_943 : decode cL_law 943 = .ok (.goto 26, 3) := by decide +kernel
theorem dL_law_946 : decode cL_law 946 = .ok (.aload_n 1, 1) := by decide +kernel
theorem dL_law_947 : decode cL_law 947 = .ok (.aload_n 0, 1) := by decide +kernel
theorem dL_law_948 : decode cL_law 948 = .ok (.iload_n 3, 1) := by decide +kernel
theorem dL_law_949 : decode cL_law 949 = .ok (.iconst 1, 1) := by decide +kernel
theorem dL_law_950 : decode cL_law 950 = .ok (.iadd, 1) := by decide +kernel
theorem dL_law_951 : decode cL_law 951 = .ok (.iaload, 1) := by decide +kernel
theorem dL_law_952 : decode cL_law 952 = .ok (.invokevirtual 135, 3) := by decide +kernel
theorem dL_law_955 : decode cL_law 955 = .ok (.pop, 1) := by decide +kernel
theorem dL_law_956 : decode cL_law 956 = .ok (.aload_n 2, 1) := by decide +kernel
theorem dL_law_957 : decode cL_law 957 = .ok (.aload_n 0, 1) := by decide +kernel
theorem dL_law_958 : decode cL_law 958 = .ok (.iload_n 3, 1) := by decide +kernel
theorem dL_law_959 : decode cL_law 959 = .ok (.iconst 1, 1) := by decide +kernel
theorem dL_law_960 : decode cL_law 960 = .ok (.iadd, 1) := by decide +kernel
theorem dL_law_961 : decode cL_law 961 = .ok (.iaload, 1) := by decide +kernel
theorem dL_law_962 : decode cL_law 962 = .ok (.invokevirtual 138, 3) := by decide +kernel
theorem dL_law_965 : decode cL_law 965 = .ok (.pop, 1) := by decide +kernel
theorem dL_law_966 : decode cL_law 966 = .ok (.goto 3, 3) := by decide +kernel
set_option maxHeartbeats 1000000 in
set_option maxRecDepth 100000 in
theorem law_c25 {p : Program} {l : Launch} {e : Env} {s : State} {m : MethodId} {below : List Frame} {meth : Method} {c : Code} {b LN : Nat} {xs : Nat → Int32} {A : Nat → Prop} {args : Array Value} {R : Room} {Q : State → Prop} (hB : Lb p s m args meth c b xs A LN) (hR : R = room_1) (D : va_G) (cI cZ cM : ClassId) (hK : va_K D vwCl (ty3 cI cZ cM) s) {x0 y0 : Nat} {H : Heap} {locs : List Loc} {ls : Array Slot} {c0 s0 : Nat} (hc : c0 + 4 ≤ 600000) (hs : s0 + 27 ≤ 7302250) {ix : Int32} (hixa : 0 ≤ ix.toInt) (hixb : ix.toInt + 5 ≤ (LN : Int)) (hLN : LN ≤ 320) (hSt : StW D cI cZ cM A x0 y0 H) (hS : va_S A s.heap H locs) (hl : lv_has ls 4 [(0, .ref b), (1, .ref x0), (2, .ref y0), (3, .int ix)]) (hNext : ∀ (H : Heap) (locs : List Loc) (ls : Array Slot), StW D cI cZ cM A x0 y0 H → va_S A s.heap H locs → lv_has ls 4 [(0, .ref b), (1, .ref x0), (2, .ref y0), (3, .int ix)] → W p l e R s m args below meth c H locs (c0 + 4) (s0 + 27) Q (F0 m 969 ls [])) : W p l e R s m args below meth c H locs c0 s0 Q (F0 m 877 ls []) := by
  obtain ⟨hx, hb, hr, hml, hown, hts, hX, hbl, hlocks, hA, hAf⟩ := hB
  have hbA : ¬ A b := fun q => absurd (hAf b q) (Nat.not_le.mpr hbl)
  refine stw_elim hSt ?_
  intro tx le td dr nw ac fa an kp ks sp ss sy sc sd tr ia Ftx lpe ltk lho lli lki lfd lfr lto lse lhl lFho lFli lFki lFfd lFfr lFto lFse lFhl dpe dtk dho dli dki dfd dfr dto dse dhl dFho dFli dFki dFfd dFfr dFto dFse dFhl md mt mr mg mat mfd mhd mFat mFfd mFhd Fac Fkp Fsp Fss Fsy mo rd zd zt zr zg zat zfd zhd zFat zFfd zFhd Frd Fia ype ytk ywi yki yse yno yrh yrw yrk yrt yrp yrq ytx yle yat yfa yby ylo yhi yac ynx yro ygl ysn yso ysp ysw ysd yik ykp Ywi Yki Yse Yno Yrh Yrw Yrk Yrt Ytx Yby Ylo Yhi Yro Ygl Yso Ysp Ysw Yik Ykp L hI hP hD
  obtain ⟨⟨hle0, hle1⟩, ⟨hfa0, hfa1⟩, ⟨han0, han1⟩, ⟨hsc0, hsc1⟩, ⟨hlpe0, hlpe1⟩, ⟨hltk0, hltk1⟩, ⟨hmd0, hmd1⟩, ⟨hmt0, hmt1⟩, ⟨hype0, hype1⟩, ⟨hytk0, hytk1⟩, ⟨hyle0, hyle1⟩, ⟨hyac0, hyac1⟩, ⟨hynx0, hynx1⟩, ⟨hysn0, hysn1⟩, hPoA, hPoK, hMsO, hByO, hle, hsd, hTX, hTxO, hlpt, hsct⟩ := hI
  have hlet : le.toInt = yle.toInt := by rw [hle]
  have hTxY : TxOk Ytx := hTX ▸ hTxO
  have hFL : flt Ytx yle.toInt = flt Ftx le.toInt := by rw [hTX, hle]
  have hFL_1 : (flt Ytx yle.toInt).1 = (flt Ftx le.toInt).1 := by rw [hFL]
  have hFL_2_1 : (flt Ytx yle.toInt).2.1 = (flt Ftx le.toInt).2.1 := by rw [hFL]
  have hFL_2_2 : (flt Ytx yle.toInt).2.2 = (flt Ftx le.toInt).2.2 := by rw [hFL]
  have hsdt : sd.toInt = ysd.toInt := by rw [hsd]
  obtain ⟨a1, ha1⟩ : ∃ z : Int32, xs (ix + 1 : Int32).toNatClampNeg = z := ⟨_, rfl⟩
  obtain ⟨a2, ha2⟩ : ∃ z : Int32, xs (ix + 2 : Int32).toNatClampNeg = z := ⟨_, rfl⟩
  obtain ⟨a3, ha3⟩ : ∃ z : Int32, xs (ix + 3 : Int32).toNatClampNeg = z := ⟨_, rfl⟩
  obtain ⟨a4, ha4⟩ : ∃ z : Int32, xs (ix + 4 : Int32).toNatClampNeg = z := ⟨_, rfl⟩
  refine lv_aload_n hx hb dL_law_877 rfl (lv_at hl 1 rfl) ?_
  refine lv_aload_n hx hb dL_law_878 rfl (lv_at hl 0 rfl) ?_
  refine lv_iload_n hx hb dL_law_879 rfl (lv_at hl 3 rfl) ?_
  refine lv_iconst (v := 1) hx hb dL_law_880 (by decide) ?_
  refine lv_iadd hx hb dL_law_881 ?_
  refine lv_topi (fun v_1 ev_1 => ?_)
  have tv_1 : v_1.toInt = ix.toInt + (1 : Int) := by rw [ev_1]; exact ti_add (x := ix) (y := 1) (show -2147483648 ≤ ix.toInt + (1 : Int) by omega) (show ix.toInt + (1 : Int) < 2147483648 by omega)
  refine va_sld hx hb hX hbl hbA hS (vp_in_iff.mpr ⟨by omega, by omega⟩) dL_law_882 ?_
  refine lv_topc (y := a1) (by rw [ev_1]; exact ha1) ?_
  refine fV_i (As := [.int a1]) (rest := []) ⟨hx, hb, hml, hown, hts⟩ (c_X3_years l D cI cZ cM x0 a1 tx le td dr nw ac fa an kp ks sp ss sy sc sd tr ia lpe ltk lho lli lki lfd lfr lto lse lhl lFto lFfr lFki lFli md mt mr mg mat mfd mhd mFat mFfd mFhd mo rd zd zt zr zg zat zfd zhd zFat zFfd zFhd Frd _ (show 0 ≤ md.toInt ∧ md.toInt ≤ 10 by omega) (show 0 ≤ mt.toInt ∧ mt.toInt ≤ 6 by omega) (show 0 ≤ lpe.toInt ∧ lpe.toInt ≤ 5 by omega)) (cwV 1 hts gL_law_X3_years rfl rfl rfl (by decide +kernel) ⟨by rw [hR]; decide, by rw [hR]; decide⟩) hK hP hD hS hA [0, 2, 8, 7, 5, 4, 20, 21, 22, 23, 29, 30, 31, 32, 33, 34] [1, 3, 6, 9, 10, 11, 12, 13, 14, 15, 16, 17, 18, 19, 24, 25, 26, 27, 28, 35, 36, 37, 38, 39, 40, 41, 42, 43, 44, 45, 46, 47, 48, 49, 50, 51, 52, 53, 54, 55] rfl rfl (by decide +kernel) (by decide +kernel) (by decide +kernel) rfl 0 rfl hl.1 rfl rfl (Nat.le_of_ble_eq_true rfl) dL_law_883 ⟨by rw [hR]; exact (show _ ≤ 600000 by omega), by rw [hR]; exact (show _ ≤ 7302250 by omega)⟩ (fun r_11 u_12 H locs hw hP hD hS => ?_)
  obtain ⟨sd1_2, zd1_3, zt1_4, zr1_5, zg1_6, Gzat_7, Gzfd_8, Gzhd_9, Grd_10⟩ := u_12
  obtain ⟨hP, hD⟩ := PD_subF (X' := WXY cI cZ cM x0 y0 tx le td dr nw ac fa an kp ks sp ss sy sc sd1_2 tr ia Ftx lpe ltk lho lli lki lfd lfr lto lse lhl lFho lFli lFki lFfd lFfr lFto lFse lFhl dpe dtk dho dli dki dfd dfr dto dse dhl dFho dFli dFki dFfd dFfr dFto dFse dFhl md mt mr mg mat mfd mhd mFat mFfd mFhd Fac Fkp Fsp Fss Fsy mo rd zd1_3 zt1_4 zr1_5 zg1_6 zat zfd zhd Gzat_7 Gzfd_8 Gzhd_9 Grd_10 Fia ype ytk ywi yki yse yno yrh yrw yrk yrt yrp yrq ytx yle yat yfa yby ylo yhi yac ynx yro ygl ysn yso ysp ysw ysd yik ykp Ywi Yki Yse Yno Yrh Yrw Yrk Yrt Ytx Yby Ylo Yhi Yro Ygl Yso Ysp Ysw Yik Ykp) hP hD [40, 0, 41, 1, 45, 44, 2, 43, 42, 3, 4, 5, 6, 7, 8, 9, 10, 11, 12, 13, 46, 47, 48, 49, 14, 15, 16, 17, 18, 50, 51, 52, 53, 54, 55, 19, 20, 21, 22, 23, 24, 25, 26, 27, 28, 29, 30, 31, 32, 33, 34, 35, 36, 37, 38, 39] (by decide +kernel) rfl
  delta WXY at hP hD
  refine W.widen (k := c0) (n := s0) (Nat.le_refl _) (Nat.le_refl _) ?_
  have hw : ((a1.toInt < 1 ∨ 30 < a1.toInt) ∧ sd1_2 = sd) ∨ (1 ≤ a1.toInt ∧ a1.toInt ≤ 30 ∧ sd1_2 = itS a1.toInt.toNat sd) := hw
  have hw_13 := hw
  refine lv_pop hx hb dL_law_886 rfl ?_
  refine lv_aload_n hx hb dL_law_887 rfl (lv_at hl 2 rfl) ?_
  refine lv_aload_n hx hb dL_law_888 rfl (lv_at hl 0 rfl) ?_
  refine lv_iload_n hx hb dL_law_889 rfl (lv_at hl 3 rfl) ?_
  refine lv_iconst (v := 1) hx hb dL_law_890 (by decide) ?_
  refine lv_iadd hx hb dL_law_891 ?_
  refine lv_topi (fun v_14 ev_14 => ?_)
  have tv_14 : v_14.toInt = ix.toInt + (1 : Int) := by rw [ev_14]; exact ti_add (x := ix) (y := 1) (show -2147483648 ≤ ix.toInt + (1 : Int) by omega) (show ix.toInt + (1 : Int) < 2147483648 by omega)
  refine va_sld hx hb hX hbl hbA hS (vp_in_iff.mpr ⟨by omega, by omega⟩) dL_law_892 ?_
  refine lv_topc (y := a1) (by rw [ev_14]; exact ha1) ?_
  refine fV_i (As := [.int a1]) (rest := []) ⟨hx, hb, hml, hown, hts⟩ (c_X4_years l D cI cZ cM y0 a1 ype ytk ywi yki yse yno yrh yrw yrk yrt yrp yrq ytx yle yat yfa yby ylo yhi yac ynx yro ygl ysn yso ysp ysw ysd yik ykp Yno Yki Yby Ylo Yhi Ywi _ hByO (show 0 ≤ ype.toInt ∧ ype.toInt ≤ 5 by omega) (show 0 ≤ ytk.toInt ∧ ytk.toInt ≤ 6 by omega)) (cwV 1 hts gL_law_X4_years rfl rfl rfl (by decide +kernel) ⟨by rw [hR]; decide, by rw [hR]; decide⟩) hK hP hD hS hA [36, 40, 38, 46, 47, 48, 37] [0, 1, 2, 3, 4, 5, 6, 7, 8, 9, 10, 11, 12, 13, 14, 15, 16, 17, 18, 19, 20, 21, 22, 23, 24, 25, 26, 27, 28, 29, 30, 31, 32, 33, 34, 35, 39, 41, 42, 43, 44, 45, 49, 50, 51, 52, 53, 54, 55] rfl rfl (by decide) (by decide +kernel) (by decide +kernel) rfl 36 rfl hl.1 rfl rfl (Nat.le_of_ble_eq_true rfl) dL_law_893 ⟨by rw [hR]; exact (show _ ≤ 600000 by omega), by rw [hR]; exact (show _ ≤ 7302250 by omega)⟩ (fun r_20 u_21 H locs hw hP hD hS => ?_)
  obtain ⟨sd1_15, Gno_16, Gby_17, Glo_18, Ghi_19⟩ := u_21
  obtain ⟨hP, hD⟩ := PD_subF (X' := WXY cI cZ cM x0 y0 tx le td dr nw ac fa an kp ks sp ss sy sc sd1_2 tr ia Ftx lpe ltk lho lli lki lfd lfr lto lse lhl lFho lFli lFki lFfd lFfr lFto lFse lFhl dpe dtk dho dli dki dfd dfr dto dse dhl dFho dFli dFki dFfd dFfr dFto dFse dFhl md mt mr mg mat mfd mhd mFat mFfd mFhd Fac Fkp Fsp Fss Fsy mo rd zd1_3 zt1_4 zr1_5 zg1_6 zat zfd zhd Gzat_7 Gzfd_8 Gzhd_9 Grd_10 Fia ype ytk ywi yki yse yno yrh yrw yrk yrt yrp yrq ytx yle yat yfa yby ylo yhi yac ynx yro ygl ysn yso ysp ysw sd1_15 yik ykp Ywi Yki Yse Gno_16 Yrh Yrw Yrk Yrt Ytx Gby_17 Glo_18 Ghi_19 Yro Ygl Yso Ysp Ysw Yik Ykp) hP hD [0, 1, 2, 3, 4, 5, 6, 7, 8, 9, 10, 11, 12, 13, 14, 15, 16, 17, 18, 19, 20, 21, 22, 23, 24, 25, 26, 27, 28, 29, 30, 31, 32, 33, 34, 35, 49, 55, 51, 36, 50, 37, 38, 39, 40, 41, 52, 53, 54, 42, 43, 44, 45, 46, 47, 48] (by decide +kernel) rfl
  delta WXY at hP hD
  refine W.widen (k := c0) (n := s0) (Nat.le_refl _) (Nat.le_refl _) ?_
  have hw : ByOk Gby_17 ∧ (((a1.toInt < 1 ∨ 30 < a1.toInt) ∧ sd1_15 = ysd) ∨ (1 ≤ a1.toInt ∧ a1.toInt ≤ 30 ∧ sd1_15 = itS a1.toInt.toNat ysd)) := hw
  have hw_22 := hw
  have hw_22r := hw_22.2
  refine lv_pop hx hb dL_law_896 rfl ?_
  refine lv_goto (tgt := 969) hx hb dL_law_897 (by decide) ?_
  have HSD : sd1_2 = sd1_15 := by
    rcases hw_13 with ⟨xa, xb⟩ | ⟨xa, xb, xc⟩
    · rcases hw_22.2 with ⟨ya, yb⟩ | ⟨ya, yb, yc⟩
      · rw [xb, yb]; exact hsd
      · exfalso; omega
    · rcases hw_22.2 with ⟨ya, yb⟩ | ⟨ya, yb, yc⟩
      · exfalso; omega
      · rw [xc, yc, hsd]
  refine W.widen (k := c0 + 4) (n := s0 + 27) (by omega) (by omega) ?_
  exact hNext _ _ _ (stw_intro hP hD ⟨⟨hle0, hle1⟩, ⟨hfa0, hfa1⟩, ⟨han0, han1⟩, ⟨hsc0, hsc1⟩, ⟨hlpe0, hlpe1⟩, ⟨hltk0, hltk1⟩, ⟨hmd0, hmd1⟩, ⟨hmt0, hmt1⟩, ⟨hype0, hype1⟩, ⟨hytk0, hytk1⟩, ⟨hyle0, hyle1⟩, ⟨hyac0, hyac1⟩, ⟨hynx0, hynx1⟩, ⟨hysn0, hysn1⟩, hPoA, hPoK, hMsO, hw_22.1, hle, HSD, hTX, hTxO, hlpt, hsct⟩) hS (lv_sub hl [0, 1, 2, 3] rfl)

set_option maxHeartbeats 1000000 in
set_option maxRecDepth 100000 in
theorem law_c26 {p : Program} {l : Launch} {e : Env} {s : State} {m : MethodId} {below : List Frame} {meth : Method} {c : Code} {b LN : Nat} {xs : Nat → Int32} {A : Nat → Prop} {args : Array Value} {R : Room} {Q : State → Prop} (hB : Lb p s m args meth c b xs A LN) (hR : R = room_1) (D : va_G) (cI cZ cM : ClassId) (hK : va_K D vwCl (ty3 cI cZ cM) s) {x0 y0 : Nat} {H : Heap} {locs : List Loc} {ls : Array Slot} {c0 s0 : Nat} (hc : c0 + 4 ≤ 600000) (hs : s0 + 27 ≤ 7302250) {ix : Int32} (hixa : 0 ≤ ix.toInt) (hixb : ix.toInt + 5 ≤ (LN : Int)) (hLN : LN ≤ 320) (hSt : StW D cI cZ cM A x0 y0 H) (hS : va_S A s.heap H locs) (hl : lv_has ls 4 [(0, .ref b), (1, .ref x0), (2, .ref y0), (3, .int ix)]) (hNext : ∀ (H : Heap) (locs : List Loc) (ls : Array Slot), StW D cI cZ cM A x0 y0 H → va_S A s.heap H locs → lv_has ls 4 [(0, .ref b), (1, .ref x0), (2, .ref y0), (3, .int ix)] → W p l e R s m args below meth c H locs (c0 + 4) (s0 + 27) Q (F0 m 969 ls [])) : W p l e R s m args below meth c H locs c0 s0 Q (F0 m 900 ls []) := by
  obtain ⟨hx, hb, hr, hml, hown, hts, hX, hbl, hlocks, hA, hAf⟩ := hB
  have hbA : ¬ A b := fun q => absurd (hAf b q) (Nat.not_le.mpr hbl)
  refine stw_elim hSt ?_
  intro tx le td dr nw ac fa an kp ks sp ss sy sc sd tr ia Ftx lpe ltk lho lli lki lfd lfr lto lse lhl lFho lFli lFki lFfd lFfr lFto lFse lFhl dpe dtk dho dli dki dfd dfr dto dse dhl dFho dFli dFki dFfd dFfr dFto dFse dFhl md mt mr mg mat mfd mhd mFat mFfd mFhd Fac Fkp Fsp Fss Fsy mo rd zd zt zr zg zat zfd zhd zFat zFfd zFhd Frd Fia ype ytk ywi yki yse yno yrh yrw yrk yrt yrp yrq ytx yle yat yfa yby ylo yhi yac ynx yro ygl ysn yso ysp ysw ysd yik ykp Ywi Yki Yse Yno Yrh Yrw Yrk Yrt Ytx Yby Ylo Yhi Yro Ygl Yso Ysp Ysw Yik Ykp L hI hP hD
  obtain ⟨⟨hle0, hle1⟩, ⟨hfa0, hfa1⟩, ⟨han0, han1⟩, ⟨hsc0, hsc1⟩, ⟨hlpe0, hlpe1⟩, ⟨hltk0, hltk1⟩, ⟨hmd0, hmd1⟩, ⟨hmt0, hmt1⟩, ⟨hype0, hype1⟩, ⟨hytk0, hytk1⟩, ⟨hyle0, hyle1⟩, ⟨hyac0, hyac1⟩, ⟨hynx0, hynx1⟩, ⟨hysn0, hysn1⟩, hPoA, hPoK, hMsO, hByO, hle, hsd, hTX, hTxO, hlpt, hsct⟩ := hI
  have hlet : le.toInt = yle.toInt := by rw [hle]
  have hTxY : TxOk Ytx := hTX ▸ hTxO
  have hFL : flt Ytx yle.toInt = flt Ftx le.toInt := by rw [hTX, hle]
  have hFL_1 : (flt Ytx yle.toInt).1 = (flt Ftx le.toInt).1 := by rw [hFL]
  have hFL_2_1 : (flt Ytx yle.toInt).2.1 = (flt Ftx le.toInt).2.1 := by rw [hFL]
  have hFL_2_2 : (flt Ytx yle.toInt).2.2 = (flt Ftx le.toInt).2.2 := by rw [hFL]
  have hsdt : sd.toInt = ysd.toInt := by rw [hsd]
  obtain ⟨a1, ha1⟩ : ∃ z : Int32, xs (ix + 1 : Int32).toNatClampNeg = z := ⟨_, rfl⟩
  obtain ⟨a2, ha2⟩ : ∃ z : Int32, xs (ix + 2 : Int32).toNatClampNeg = z := ⟨_, rfl⟩
  obtain ⟨a3, ha3⟩ : ∃ z : Int32, xs (ix + 3 : Int32).toNatClampNeg = z := ⟨_, rfl⟩
  obtain ⟨a4, ha4⟩ : ∃ z : Int32, xs (ix + 4 : Int32).toNatClampNeg = z := ⟨_, rfl⟩
  refine lv_aload_n hx hb dL_law_900 rfl (lv_at hl 1 rfl) ?_
  refine lv_aload_n hx hb dL_law_901 rfl (lv_at hl 0 rfl) ?_
  refine lv_iload_n hx hb dL_law_902 rfl (lv_at hl 3 rfl) ?_
  refine lv_iconst (v := 1) hx hb dL_law_903 (by decide) ?_
  refine lv_iadd hx hb dL_law_904 ?_
  refine lv_topi (fun v_1 ev_1 => ?_)
  have tv_1 : v_1.toInt = ix.toInt + (1 : Int) := by rw [ev_1]; exact ti_add (x := ix) (y := 1) (show -2147483648 ≤ ix.toInt + (1 : Int) by omega) (show ix.toInt + (1 : Int) < 2147483648 by omega)
  refine va_sld hx hb hX hbl hbA hS (vp_in_iff.mpr ⟨by omega, by omega⟩) dL_law_905 ?_
  refine lv_topc (y := a1) (by rw [ev_1]; exact ha1) ?_
  refine gV_i (As := [.int a1]) (rest := []) ⟨hx, hb, hml, hown, hts⟩ (c_X3_keep l D cI cZ cM x0 a1 tx le td dr nw ac fa an kp ks sp ss sy sc sd tr ia Fkp md mt mr mg mat mfd mhd mFat mFfd mFhd L _ hPoK hMsO (show 0 ≤ md.toInt ∧ md.toInt ≤ 10 by omega) (show 0 ≤ mt.toInt ∧ mt.toInt ≤ 6 by omega)) (cwV 1 hts gL_law_X3_keep rfl rfl rfl (by decide +kernel) ⟨by rw [hR]; decide, by rw [hR]; decide⟩) hK hP hD hS hA [0, 25, 20, 21, 22, 23] [1, 2, 3, 4, 5, 6, 7, 8, 9, 10, 11, 12, 13, 14, 15, 16, 17, 18, 19, 24, 26, 27, 28, 29, 30, 31, 32, 33, 34, 35, 36, 37, 38, 39, 40, 41, 42, 43, 44, 45, 46, 47, 48, 49, 50, 51, 52, 53, 54, 55] rfl rfl (by decide) (by decide +kernel) (by decide +kernel) rfl 0 rfl hl.1 rfl rfl (Nat.le_of_ble_eq_true rfl) dL_law_906 ⟨by rw [hR]; exact (show _ ≤ 600000 by omega), by rw [hR]; exact (show _ ≤ 7302250 by omega)⟩ (fun r_5 u_6 H locs hw hP hD hS => ?_)
  obtain ⟨ks1_2, Gkp_3, L1_4⟩ := u_6
  obtain ⟨hP, hD⟩ := PD_subF (X' := WXY cI cZ cM x0 y0 tx le td dr nw ac fa an kp ks1_2 sp ss sy sc sd tr ia Ftx lpe ltk lho lli lki lfd lfr lto lse lhl lFho lFli lFki lFfd lFfr lFto lFse lFhl dpe dtk dho dli dki dfd dfr dto dse dhl dFho dFli dFki dFfd dFfr dFto dFse dFhl md mt mr mg mat mfd mhd mFat mFfd mFhd Fac Gkp_3 Fsp Fss Fsy mo rd zd zt zr zg zat zfd zhd zFat zFfd zFhd Frd Fia ype ytk ywi yki yse yno yrh yrw yrk yrt yrp yrq ytx yle yat yfa yby ylo yhi yac ynx yro ygl ysn yso ysp ysw ysd yik ykp Ywi Yki Yse Yno Yrh Yrw Yrk Yrt Ytx Yby Ylo Yhi Yro Ygl Yso Ysp Ysw Yik Ykp) hP hD [50, 0, 1, 2, 3, 4, 5, 6, 7, 8, 9, 10, 11, 12, 13, 14, 15, 16, 17, 18, 52, 53, 54, 55, 19, 51, 20, 21, 22, 23, 24, 25, 26, 27, 28, 29, 30, 31, 32, 33, 34, 35, 36, 37, 38, 39, 40, 41, 42, 43, 44, 45, 46, 47, 48, 49] (by decide +kernel) rfl
  delta WXY at hP hD
  refine W.widen (k := (c0 + 4)) (n := (s0 + 27)) (by omega) (by omega) ?_
  have hw : InPool 2 Gkp_3 L1_4 ∧ Keeps L L1_4 ∧ MsOk L1_4 := hw
  have hw_7 := hw
  obtain ⟨PL_8a, PL_8b, PL_8c⟩ := hw_7
  refine lv_pop hx hb dL_law_909 rfl ?_
  refine lv_aload_n hx hb dL_law_910 rfl (lv_at hl 2 rfl) ?_
  refine lv_aload_n hx hb dL_law_911 rfl (lv_at hl 0 rfl) ?_
  refine lv_iload_n hx hb dL_law_912 rfl (lv_at hl 3 rfl) ?_
  refine lv_iconst (v := 1) hx hb dL_law_913 (by decide) ?_
  refine lv_iadd hx hb dL_law_914 ?_
  refine lv_topi (fun v_9 ev_9 => ?_)
  have tv_9 : v_9.toInt = ix.toInt + (1 : Int) := by rw [ev_9]; exact ti_add (x := ix) (y := 1) (show -2147483648 ≤ ix.toInt + (1 : Int) by omega) (show ix.toInt + (1 : Int) < 2147483648 by omega)
  refine va_sld hx hb hX hbl hbA hS (vp_in_iff.mpr ⟨by omega, by omega⟩) dL_law_915 ?_
  refine lv_topc (y := a1) (by rw [ev_9]; exact ha1) ?_
  refine fV_i (As := [.int a1]) (rest := []) ⟨hx, hb, hml, hown, hts⟩ (c_X4_keep l D cI cZ cM y0 a1 ype ytk ywi yki yse yno yrh yrw yrk yrt yrp yrq ytx yle yat yfa yby ylo yhi yac ynx yro ygl ysn yso ysp ysw ysd yik ykp Yno Ykp Yik _ ) (cwV 1 hts gL_law_X4_keep rfl rfl rfl (by decide +kernel) ⟨by rw [hR]; decide, by rw [hR]; decide⟩) hK hP hD hS hA [36, 40, 55, 54] [0, 1, 2, 3, 4, 5, 6, 7, 8, 9, 10, 11, 12, 13, 14, 15, 16, 17, 18, 19, 20, 21, 22, 23, 24, 25, 26, 27, 28, 29, 30, 31, 32, 33, 34, 35, 37, 38, 39, 41, 42, 43, 44, 45, 46, 47, 48, 49, 50, 51, 52, 53] rfl rfl (by decide) (by decide +kernel) (by decide +kernel) rfl 36 rfl hl.1 rfl rfl (Nat.le_of_ble_eq_true rfl) dL_law_916 ⟨by rw [hR]; exact (show _ ≤ 600000 by omega), by rw [hR]; exact (show _ ≤ 7302250 by omega)⟩ (fun r_12 u_13 H locs hw hP hD hS => ?_)
  obtain ⟨Gkp_10, Gik_11⟩ := u_13
  obtain ⟨hP, hD⟩ := PD_subF (X' := WXY cI cZ cM x0 y0 tx le td dr nw ac fa an kp ks1_2 sp ss sy sc sd tr ia Ftx lpe ltk lho lli lki lfd lfr lto lse lhl lFho lFli lFki lFfd lFfr lFto lFse lFhl dpe dtk dho dli dki dfd dfr dto dse dhl dFho dFli dFki dFfd dFfr dFto dFse dFhl md mt mr mg mat mfd mhd mFat mFfd mFhd Fac Gkp_3 Fsp Fss Fsy mo rd zd zt zr zg zat zfd zhd zFat zFfd zFhd Frd Fia ype ytk ywi yki yse yno yrh yrw yrk yrt yrp yrq ytx yle yat yfa yby ylo yhi yac ynx yro ygl ysn yso ysp ysw ysd yik ykp Ywi Yki Yse Yno Yrh Yrw Yrk Yrt Ytx Yby Ylo Yhi Yro Ygl Yso Ysp Ysw Gik_11 Gkp_10) hP hD [0, 1, 2, 3, 4, 5, 6, 7, 8, 9, 10, 11, 12, 13, 14, 15, 16, 17, 18, 19, 20, 21, 22, 23, 24, 25, 26, 27, 28, 29, 30, 31, 32, 33, 34, 35, 52, 36, 37, 38, 53, 39, 40, 41, 42, 43, 44, 45, 46, 47, 48, 49, 50, 51, 55, 54] (by decide +kernel) rfl
  delta WXY at hP hD
  refine W.widen (k := (c0 + 4)) (n := (s0 + 27)) (Nat.le_refl _) (Nat.le_refl _) ?_
  refine lv_pop hx hb dL_law_919 rfl ?_
  refine lv_goto (tgt := 969) hx hb dL_law_920 (by decide) ?_
  refine W.widen (k := c0 + 4) (n := s0 + 27) (by omega) (by omega) ?_
  exact hNext _ _ _ (stw_intro hP hD ⟨⟨hle0, hle1⟩, ⟨hfa0, hfa1⟩, ⟨han0, han1⟩, ⟨hsc0, hsc1⟩, ⟨hlpe0, hlpe1⟩, ⟨hltk0, hltk1⟩, ⟨hmd0, hmd1⟩, ⟨hmt0, hmt1⟩, ⟨hype0, hype1⟩, ⟨hytk0, hytk1⟩, ⟨hyle0, hyle1⟩, ⟨hyac0, hyac1⟩, ⟨hynx0, hynx1⟩, ⟨hysn0, hysn1⟩, (hPoA.keeps PL_8b), PL_8a, PL_8c, hByO, hle, hsd, hTX, hTxO, hlpt, hsct⟩) hS (lv_sub hl [0, 1, 2, 3] rfl)

set_option maxHeartbeats 1000000 in
set_option maxRecDepth 100000 in
theorem law_c27 {p : Program} {l : Launch} {e : Env} {s : State} {m : MethodId} {below : List Frame} {meth : Method} {c : Code} {b LN : Nat} {xs : Nat → Int32} {A : Nat → Prop} {args : Array Value} {R : Room} {Q : State → Prop} (hB : Lb p s m args meth c b xs A LN) (hR : R = room_1) (D : va_G) (cI cZ cM : ClassId) (hK : va_K D vwCl (ty3 cI cZ cM) s) {x0 y0 : Nat} {H : Heap} {locs : List Loc} {ls : Array Slot} {c0 s0 : Nat} (hc : c0 + 4 ≤ 600000) (hs : s0 + 27 ≤ 7302250) {ix : Int32} (hixa : 0 ≤ ix.toInt) (hixb : ix.toInt + 5 ≤ (LN : Int)) (hLN : LN ≤ 320) (hSt : StW D cI cZ cM A x0 y0 H) (hS : va_S A s.heap H locs) (hl : lv_has ls 4 [(0, .ref b), (1, .ref x0), (2, .ref y0), (3, .int ix)]) (hNext : ∀ (H : Heap) (locs : List Loc) (ls : Array Slot), StW D cI cZ cM A x0 y0 H → va_S A s.heap H locs → lv_has ls 4 [(0, .ref b), (1, .ref x0), (2, .ref y0), (3, .int ix)] → W p l e R s m args below meth c H locs (c0 + 4) (s0 + 27) Q (F0 m 969 ls [])) : W p l e R s m args below meth c H locs c0 s0 Q (F0 m 923 ls []) := by
  obtain ⟨hx, hb, hr, hml, hown, hts, hX, hbl, hlocks, hA, hAf⟩ := hB
  have hbA : ¬ A b := fun q => absurd (hAf b q) (Nat.not_le.mpr hbl)
  refine stw_elim hSt ?_
  intro tx le td dr nw ac fa an kp ks sp ss sy sc sd tr ia Ftx lpe ltk lho lli lki lfd lfr lto lse lhl lFho lFli lFki lFfd lFfr lFto lFse lFhl dpe dtk dho dli dki dfd dfr dto dse dhl dFho dFli dFki dFfd dFfr dFto dFse dFhl md mt mr mg mat mfd mhd mFat mFfd mFhd Fac Fkp Fsp Fss Fsy mo rd zd zt zr zg zat zfd zhd zFat zFfd zFhd Frd Fia ype ytk ywi yki yse yno yrh yrw yrk yrt yrp yrq ytx yle yat yfa yby ylo yhi yac ynx yro ygl ysn yso ysp ysw ysd yik ykp Ywi Yki Yse Yno Yrh Yrw Yrk Yrt Ytx Yby Ylo Yhi Yro Ygl Yso Ysp Ysw Yik Ykp L hI hP hD
  obtain ⟨⟨hle0, hle1⟩, ⟨hfa0, hfa1⟩, ⟨han0, han1⟩, ⟨hsc0, hsc1⟩, ⟨hlpe0, hlpe1⟩, ⟨hltk0, hltk1⟩, ⟨hmd0, hmd1⟩, ⟨hmt0, hmt1⟩, ⟨hype0, hype1⟩, ⟨hytk0, hytk1⟩, ⟨hyle0, hyle1⟩, ⟨hyac0, hyac1⟩, ⟨hynx0, hynx1⟩, ⟨hysn0, hysn1⟩, hPoA, hPoK, hMsO, hByO, hle, hsd, hTX, hTxO, hlpt, hsct⟩ := hI
  have hlet : le.toInt = yle.toInt := by rw [hle]
  have hTxY : TxOk Ytx := hTX ▸ hTxO
  have hFL : flt Ytx yle.toInt = flt Ftx le.toInt := by rw [hTX, hle]
  have hFL_1 : (flt Ytx yle.toInt).1 = (flt Ftx le.toInt).1 := by rw [hFL]
  have hFL_2_1 : (flt Ytx yle.toInt).2.1 = (flt Ftx le.toInt).2.1 := by rw [hFL]
  have hFL_2_2 : (flt Ytx yle.toInt).2.2 = (flt Ftx le.toInt).2.2 := by rw [hFL]
  have hsdt : sd.toInt = ysd.toInt := by rw [hsd]
  obtain ⟨a1, ha1⟩ : ∃ z : Int32, xs (ix + 1 : Int32).toNatClampNeg = z := ⟨_, rfl⟩
  obtain ⟨a2, ha2⟩ : ∃ z : Int32, xs (ix + 2 : Int32).toNatClampNeg = z := ⟨_, rfl⟩
  obtain ⟨a3, ha3⟩ : ∃ z : Int32, xs (ix + 3 : Int32).toNatClampNeg = z := ⟨_, rfl⟩
  obtain ⟨a4, ha4⟩ : ∃ z : Int32, xs (ix + 4 : Int32).toNatClampNeg = z := ⟨_, rfl⟩
  refine lv_aload_n hx hb dL_law_923 rfl (lv_at hl 1 rfl) ?_
  refine lv_aload_n hx hb dL_law_924 rfl (lv_at hl 0 rfl) ?_
  refine lv_iload_n hx hb dL_law_925 rfl (lv_at hl 3 rfl) ?_
  refine lv_iconst (v := 1) hx hb dL_law_926 (by decide) ?_
  refine lv_iadd hx hb dL_law_927 ?_
  refine lv_topi (fun v_1 ev_1 => ?_)
  have tv_1 : v_1.toInt = ix.toInt + (1 : Int) := by rw [ev_1]; exact ti_add (x := ix) (y := 1) (show -2147483648 ≤ ix.toInt + (1 : Int) by omega) (show ix.toInt + (1 : Int) < 2147483648 by omega)
  refine va_sld hx hb hX hbl hbA hS (vp_in_iff.mpr ⟨by omega, by omega⟩) dL_law_928 ?_
  refine lv_topc (y := a1) (by rw [ev_1]; exact ha1) ?_
  refine gV_i (As := [.int a1]) (rest := []) ⟨hx, hb, hml, hown, hts⟩ (c_X3_again l D cI cZ cM x0 a1 tx le td dr nw ac fa an kp ks sp ss sy sc sd tr ia Fkp md mt mr mg mat mfd mhd mFat mFfd mFhd L _ hPoK hMsO (show 0 ≤ fa.toInt ∧ fa.toInt ≤ 13 by omega) (show 0 ≤ an.toInt ∧ an.toInt ≤ 14 by omega) (show 0 ≤ md.toInt ∧ md.toInt ≤ 10 by omega) (show 0 ≤ mt.toInt ∧ mt.toInt ≤ 6 by omega)) (cwV 1 hts gL_law_X3_again rfl rfl rfl (by decide +kernel) ⟨by rw [hR]; decide, by rw [hR]; decide⟩) hK hP hD hS hA [0, 25, 20, 21, 22, 23] [1, 2, 3, 4, 5, 6, 7, 8, 9, 10, 11, 12, 13, 14, 15, 16, 17, 18, 19, 24, 26, 27, 28, 29, 30, 31, 32, 33, 34, 35, 36, 37, 38, 39, 40, 41, 42, 43, 44, 45, 46, 47, 48, 49, 50, 51, 52, 53, 54, 55] rfl rfl (by decide) (by decide +kernel) (by decide +kernel) rfl 0 rfl hl.1 rfl rfl (Nat.le_of_ble_eq_true rfl) dL_law_929 ⟨by rw [hR]; exact (show _ ≤ 600000 by omega), by rw [hR]; exact (show _ ≤ 7302250 by omega)⟩ (fun r_13 u_14 H locs hw hP hD hS => ?_)
  obtain ⟨fa1_2, an1_3, Gkp_4, md1_5, mt1_6, mr1_7, mg1_8, Gmat_9, Gmfd_10, Gmhd_11, L1_12⟩ := u_14
  obtain ⟨hP, hD⟩ := PD_subF (X' := WXY cI cZ cM x0 y0 tx le td dr nw ac fa1_2 an1_3 kp ks sp ss sy sc sd tr ia Ftx lpe ltk lho lli lki lfd lfr lto lse lhl lFho lFli lFki lFfd lFfr lFto lFse lFhl dpe dtk dho dli dki dfd dfr dto dse dhl dFho dFli dFki dFfd dFfr dFto dFse dFhl md1_5 mt1_6 mr1_7 mg1_8 mat mfd mhd Gmat_9 Gmfd_10 Gmhd_11 Fac Gkp_4 Fsp Fss Fsy mo rd zd zt zr zg zat zfd zhd zFat zFfd zFhd Frd Fia ype ytk ywi yki yse yno yrh yrw yrk yrt yrp yrq ytx yle yat yfa yby ylo yhi yac ynx yro ygl ysn yso ysp ysw ysd yik ykp Ywi Yki Yse Yno Yrh Yrw Yrk Yrt Ytx Yby Ylo Yhi Yro Ygl Yso Ysp Ysw Yik Ykp) hP hD [50, 0, 1, 2, 3, 4, 5, 6, 7, 8, 9, 10, 11, 12, 13, 14, 15, 16, 17, 18, 52, 53, 54, 55, 19, 51, 20, 21, 22, 23, 24, 25, 26, 27, 28, 29, 30, 31, 32, 33, 34, 35, 36, 37, 38, 39, 40, 41, 42, 43, 44, 45, 46, 47, 48, 49] (by decide +kernel) rfl
  delta WXY at hP hD
  refine W.widen (k := c0) (n := s0) (Nat.le_refl _) (Nat.le_refl _) ?_
  have hw : InPool 2 Gkp_4 L1_12 ∧ Keeps L L1_12 ∧ MsOk L1_12 ∧ (0 ≤ fa1_2.toInt ∧ fa1_2.toInt ≤ 13) ∧ (0 ≤ an1_3.toInt ∧ an1_3.toInt ≤ 14) ∧ (0 ≤ md1_5.toInt ∧ md1_5.toInt ≤ 10) ∧ (0 ≤ mt1_6.toInt ∧ mt1_6.toInt ≤ 6) := hw
  have hw_15 := hw
  obtain ⟨PL_16a, PL_16b, PL_16c, PL_16d⟩ := hw_15
  refine lv_pop hx hb dL_law_932 rfl ?_
  refine lv_aload_n hx hb dL_law_933 rfl (lv_at hl 2 rfl) ?_
  refine lv_aload_n hx hb dL_law_934 rfl (lv_at hl 0 rfl) ?_
  refine lv_iload_n hx hb dL_law_935 rfl (lv_at hl 3 rfl) ?_
  refine lv_iconst (v := 1) hx hb dL_law_936 (by decide) ?_
  refine lv_iadd hx hb dL_law_937 ?_
  refine lv_topi (fun v_17 ev_17 => ?_)
  have tv_17 : v_17.toInt = ix.toInt + (1 : Int) := by rw [ev_17]; exact ti_add (x := ix) (y := 1) (show -2147483648 ≤ ix.toInt + (1 : Int) by omega) (show ix.toInt + (1 : Int) < 2147483648 by omega)
  refine va_sld hx hb hX hbl hbA hS (vp_in_iff.mpr ⟨by omega, by omega⟩) dL_law_938 ?_
  refine lv_topc (y := a1) (by rw [ev_17]; exact ha1) ?_
  refine fV_i (As := [.int a1]) (rest := []) ⟨hx, hb, hml, hown, hts⟩ (c_X4_again l D cI cZ cM y0 a1 ype ytk ywi yki yse yno yrh yrw yrk yrt yrp yrq ytx yle yat yfa yby ylo yhi yac ynx yro ygl ysn yso ysp ysw ysd yik ykp Yno Ykp Yik _ (show 0 ≤ yac.toInt ∧ yac.toInt ≤ 14 by omega)) (cwV 1 hts gL_law_X4_again rfl rfl rfl (by decide +kernel) ⟨by rw [hR]; decide, by rw [hR]; decide⟩) hK hP hD hS hA [36, 40, 55, 54] [0, 1, 2, 3, 4, 5, 6, 7, 8, 9, 10, 11, 12, 13, 14, 15, 16, 17, 18, 19, 20, 21, 22, 23, 24, 25, 26, 27, 28, 29, 30, 31, 32, 33, 34, 35, 37, 38, 39, 41, 42, 43, 44, 45, 46, 47, 48, 49, 50, 51, 52, 53] rfl rfl (by decide) (by decide +kernel) (by decide +kernel) rfl 36 rfl hl.1 rfl rfl (Nat.le_of_ble_eq_true rfl) dL_law_939 ⟨by rw [hR]; exact (show _ ≤ 600000 by omega), by rw [hR]; exact (show _ ≤ 7302250 by omega)⟩ (fun r_20 u_21 H locs hw hP hD hS => ?_)
  obtain ⟨ac1_18, Gno_19⟩ := u_21
  obtain ⟨hP, hD⟩ := PD_subF (X' := WXY cI cZ cM x0 y0 tx le td dr nw ac fa1_2 an1_3 kp ks sp ss sy sc sd tr ia Ftx lpe ltk lho lli lki lfd lfr lto lse lhl lFho lFli lFki lFfd lFfr lFto lFse lFhl dpe dtk dho dli dki dfd dfr dto dse dhl dFho dFli dFki dFfd dFfr dFto dFse dFhl md1_5 mt1_6 mr1_7 mg1_8 mat mfd mhd Gmat_9 Gmfd_10 Gmhd_11 Fac Gkp_4 Fsp Fss Fsy mo rd zd zt zr zg zat zfd zhd zFat zFfd zFhd Frd Fia ype ytk ywi yki yse yno yrh yrw yrk yrt yrp yrq ytx yle yat yfa yby ylo yhi ac1_18 ynx yro ygl ysn yso ysp ysw ysd yik ykp Ywi Yki Yse Gno_19 Yrh Yrw Yrk Yrt Ytx Yby Ylo Yhi Yro Ygl Yso Ysp Ysw Yik Ykp) hP hD [0, 1, 2, 3, 4, 5, 6, 7, 8, 9, 10, 11, 12, 13, 14, 15, 16, 17, 18, 19, 20, 21, 22, 23, 24, 25, 26, 27, 28, 29, 30, 31, 32, 33, 34, 35, 52, 36, 37, 38, 53, 39, 40, 41, 42, 43, 44, 45, 46, 47, 48, 49, 50, 51, 55, 54] (by decide +kernel) rfl
  delta WXY at hP hD
  refine W.widen (k := c0) (n := s0) (Nat.le_refl _) (Nat.le_refl _) ?_
  have hw : 0 ≤ ac1_18.toInt ∧ ac1_18.toInt ≤ 14 := hw
  have hw_22 := hw
  obtain ⟨hw_22a, hw_22b⟩ := hw_22
  refine lv_pop hx hb dL_law_942 rfl ?_
  refine lv_goto (tgt := 969) hx hb dL_law_943 (by decide) ?_
  refine W.widen (k := c0 + 4) (n := s0 + 27) (by omega) (by omega) ?_
  exact hNext _ _ _ (stw_intro hP hD ⟨⟨hle0, hle1⟩, (show 0 ≤ fa1_2.toInt ∧ fa1_2.toInt ≤ 13 by omega), (show 0 ≤ an1_3.toInt ∧ an1_3.toInt ≤ 14 by omega), ⟨hsc0, hsc1⟩, ⟨hlpe0, hlpe1⟩, ⟨hltk0, hltk1⟩, (show 0 ≤ md1_5.toInt ∧ md1_5.toInt ≤ 10 by omega), (show 0 ≤ mt1_6.toInt ∧ mt1_6.toInt ≤ 6 by omega), ⟨hype0, hype1⟩, ⟨hytk0, hytk1⟩, ⟨hyle0, hyle1⟩, (show 0 ≤ ac1_18.toInt ∧ ac1_18.toInt ≤ 14 by omega), ⟨hynx0, hynx1⟩, ⟨hysn0, hysn1⟩, (hPoA.keeps PL_16b), PL_16a, PL_16c, hByO, hle, hsd, hTX, hTxO, hlpt, hsct⟩) hS (lv_sub hl [0, 1, 2, 3] rfl)

set_option maxHeartbeats 1000000 in
set_option maxRecDepth 100000 in
theorem law_c28 {p : Program} {l : Launch} {e : Env} {s : State} {m : MethodId} {below : List Frame} {meth : Method} {c : Code} {b LN : Nat} {xs : Nat → Int32} {A : Nat → Prop} {args : Array Value} {R : Room} {Q : State → Prop} (hB : Lb p s m args meth c b xs A LN) (hR : R = room_1) (D : va_G) (cI cZ cM : ClassId) (hK : va_K D vwCl (ty3 cI cZ cM) s) {x0 y0 : Nat} {H : Heap} {locs : List Loc} {ls : Array Slot} {c0 s0 : Nat} (hc : c0 + 4 ≤ 600000) (hs : s0 + 27 ≤ 7302250) {ix : Int32} (hixa : 0 ≤ ix.toInt) (hixb : ix.toInt + 5 ≤ (LN : Int)) (hLN : LN ≤ 320) (hSt : StW D cI cZ cM A x0 y0 H) (hS : va_S A s.heap H locs) (hl : lv_has ls 4 [(0, .ref b), (1, .ref x0), (2, .ref y0), (3, .int ix)]) (hNext : ∀ (H : Heap) (locs : List Loc) (ls : Array Slot), StW D cI cZ cM A x0 y0 H → va_S A s.heap H locs → lv_has ls 4 [(0, .ref b), (1, .ref x0), (2, .ref y0), (3, .int ix)] → W p l e R s m args below meth c H locs (c0 + 4) (s0 + 27) Q (F0 m 969 ls [])) : W p l e R s m args below meth c H locs c0 s0 Q (F0 m 946 ls []) := by
  obtain ⟨hx, hb, hr, hml, hown, hts, hX, hbl, hlocks, hA, hAf⟩ := hB
  have hbA : ¬ A b := fun q => absurd (hAf b q) (Nat.not_le.mpr hbl)
  refine stw_elim hSt ?_
  intro tx le td dr nw ac fa an kp ks sp ss sy sc sd tr ia Ftx lpe ltk lho lli lki lfd lfr lto lse lhl lFho lFli lFki lFfd lFfr lFto lFse lFhl dpe dtk dho dli dki dfd dfr dto dse dhl dFho dFli dFki dFfd dFfr dFto dFse dFhl md mt mr mg mat mfd mhd mFat mFfd mFhd Fac Fkp Fsp Fss Fsy mo rd zd zt zr zg zat zfd zhd zFat zFfd zFhd Frd Fia ype ytk ywi yki yse yno yrh yrw yrk yrt yrp yrq ytx yle yat yfa yby ylo yhi yac ynx yro ygl ysn yso ysp ysw ysd yik ykp Ywi Yki Yse Yno Yrh Yrw Yrk Yrt Ytx Yby Ylo Yhi Yro Ygl Yso Ysp Ysw Yik Ykp L hI hP hD
  obtain ⟨⟨hle0, hle1⟩, ⟨hfa0, hfa1⟩, ⟨han0, han1⟩, ⟨hsc0, hsc1⟩, ⟨hlpe0, hlpe1⟩, ⟨hltk0, hltk1⟩, ⟨hmd0, hmd1⟩, ⟨hmt0, hmt1⟩, ⟨hype0, hype1⟩, ⟨hytk0, hytk1⟩, ⟨hyle0, hyle1⟩, ⟨hyac0, hyac1⟩, ⟨hynx0, hynx1⟩, ⟨hysn0, hysn1⟩, hPoA, hPoK, hMsO, hByO, hle, hsd, hTX, hTxO, hlpt, hsct⟩ := hI
  have hlet : le.toInt = yle.toInt := by rw [hle]
  have hTxY : TxOk Ytx := hTX ▸ hTxO
  have hFL : flt Ytx yle.toInt = flt Ftx le.toInt := by rw [hTX, hle]
  have hFL_1 : (flt Ytx yle.toInt).1 = (flt Ftx le.toInt).1 := by rw [hFL]
  have hFL_2_1 : (flt Ytx yle.toInt).2.1 = (flt Ftx le.toInt).2.1 := by rw [hFL]
  have hFL_2_2 : (flt Ytx yle.toInt).2.2 = (flt Ftx le.toInt).2.2 := by rw [hFL]
  have hsdt : sd.toInt = ysd.toInt := by rw [hsd]
  obtain ⟨a1, ha1⟩ : ∃ z : Int32, xs (ix + 1 : Int32).toNatClampNeg = z := ⟨_, rfl⟩
  obtain ⟨a2, ha2⟩ : ∃ z : Int32, xs (ix + 2 : Int32).toNatClampNeg = z := ⟨_, rfl⟩
  obtain ⟨a3, ha3⟩ : ∃ z : Int32, xs (ix + 3 : Int32).toNatClampNeg = z := ⟨_, rfl⟩
  obtain ⟨a4, ha4⟩ : ∃ z : Int32, xs (ix + 4 : Int32).toNatClampNeg = z := ⟨_, rfl⟩
  refine lv_aload_n hx hb dL_law_946 rfl (lv_at hl 1 rfl) ?_
  refine lv_aload_n hx hb dL_law_947 rfl (lv_at hl 0 rfl) ?_
  refine lv_iload_n hx hb dL_law_948 rfl (lv_at hl 3 rfl) ?_
  refine lv_iconst (v := 1) hx hb dL_law_949 (by decide) ?_
  refine lv_iadd hx hb dL_law_950 ?_
  refine lv_topi (fun v_1 ev_1 => ?_)
  have tv_1 : v_1.toInt = ix.toInt + (1 : Int) := by rw [ev_1]; exact ti_add (x := ix) (y := 1) (show -2147483648 ≤ ix.toInt + (1 : Int) by omega) (show ix.toInt + (1 : Int) < 2147483648 by omega)
  refine va_sld hx hb hX hbl hbA hS (vp_in_iff.mpr ⟨by omega, by omega⟩) dL_law_951 ?_
  refine lv_topc (y := a1) (by rw [ev_1]; exact ha1) ?_
  refine fV_i (As := [.int a1]) (rest := []) ⟨hx, hb, hml, hown, hts⟩ (c_X3_count l D cI cZ cM x0 a1 tx le td dr nw ac fa an kp ks sp ss sy sc sd tr ia lpe ltk lho lli lki lfd lfr lto lse lhl lFli md mt mr mg mat mfd mhd mFat _ (show 0 ≤ lpe.toInt ∧ lpe.toInt ≤ 5 by omega)) (cwV 1 hts gL_law_X3_count rfl rfl rfl (by decide +kernel) ⟨by rw [hR]; decide, by rw [hR]; decide⟩) hK hP hD hS hA [0, 2, 4, 20, 21] [1, 3, 5, 6, 7, 8, 9, 10, 11, 12, 13, 14, 15, 16, 17, 18, 19, 22, 23, 24, 25, 26, 27, 28, 29, 30, 31, 32, 33, 34, 35, 36, 37, 38, 39, 40, 41, 42, 43, 44, 45, 46, 47, 48, 49, 50, 51, 52, 53, 54, 55] rfl rfl (by decide) (by decide +kernel) (by decide +kernel) rfl 0 rfl hl.1 rfl rfl (Nat.le_of_ble_eq_true rfl) dL_law_952 ⟨by rw [hR]; exact (show _ ≤ 600000 by omega), by rw [hR]; exact (show _ ≤ 7302250 by omega)⟩ (fun r_2 u_3 H locs hw hP hD hS => ?_)
  obtain ⟨hP, hD⟩ := PD_subF (X' := WXY cI cZ cM x0 y0 tx le td dr nw ac fa an kp ks sp ss sy sc sd tr ia Ftx lpe ltk lho lli lki lfd lfr lto lse lhl lFho lFli lFki lFfd lFfr lFto lFse lFhl dpe dtk dho dli dki dfd dfr dto dse dhl dFho dFli dFki dFfd dFfr dFto dFse dFhl md mt mr mg mat mfd mhd mFat mFfd mFhd Fac Fkp Fsp Fss Fsy mo rd zd zt zr zg zat zfd zhd zFat zFfd zFhd Frd Fia ype ytk ywi yki yse yno yrh yrw yrk yrt yrp yrq ytx yle yat yfa yby ylo yhi yac ynx yro ygl ysn yso ysp ysw ysd yik ykp Ywi Yki Yse Yno Yrh Yrw Yrk Yrt Ytx Yby Ylo Yhi Yro Ygl Yso Ysp Ysw Yik Ykp) hP hD [51, 0, 52, 1, 53, 2, 3, 4, 5, 6, 7, 8, 9, 10, 11, 12, 13, 14, 15, 16, 54, 55, 17, 18, 19, 20, 21, 22, 23, 24, 25, 26, 27, 28, 29, 30, 31, 32, 33, 34, 35, 36, 37, 38, 39, 40, 41, 42, 43, 44, 45, 46, 47, 48, 49, 50] (by decide +kernel) rfl
  delta WXY at hP hD
  refine W.widen (k := c0) (n := s0) (Nat.le_refl _) (Nat.le_refl _) ?_
  refine lv_pop hx hb dL_law_955 rfl ?_
  refine lv_aload_n hx hb dL_law_956 rfl (lv_at hl 2 rfl) ?_
  refine lv_aload_n hx hb dL_law_957 rfl (lv_at hl 0 rfl) ?_
  refine lv_iload_n hx hb dL_law_958 rfl (lv_at hl 3 rfl) ?_
  refine lv_iconst (v := 1) hx hb dL_law_959 (by decide) ?_
  refine lv_iadd hx hb dL_law_960 ?_
  refine lv_topi (fun v_4 ev_4 => ?_)
  have tv_4 : v_4.toInt = ix.toInt + (1 : Int) := by rw [ev_4]; exact ti_add (x := ix) (y := 1) (show -2147483648 ≤ ix.toInt + (1 : Int) by omega) (show ix.toInt + (1 : Int) < 2147483648 by omega)
  refine va_sld hx hb hX hbl hbA hS (vp_in_iff.mpr ⟨by omega, by omega⟩) dL_law_961 ?_
  refine lv_topc (y := a1) (by rw [ev_4]; exact ha1) ?_
  refine fV_i (As := [.int a1]) (rest := []) ⟨hx, hb, hml, hown, hts⟩ (c_X4_count l D cI cZ cM y0 a1 ype ytk ywi yki yse yno yrh yrw yrk yrt yrp yrq ytx yle yat yfa yby ylo yhi yac ynx yro ygl ysn yso ysp ysw ysd yik ykp Yno Ywi _ (show 0 ≤ ype.toInt ∧ ype.toInt ≤ 5 by omega) (show 0 ≤ ytk.toInt ∧ ytk.toInt ≤ 6 by omega)) (cwV 1 hts gL_law_X4_count rfl rfl rfl (by decide +kernel) ⟨by rw [hR]; decide, by rw [hR]; decide⟩) hK hP hD hS hA [36, 40, 37] [0, 1, 2, 3, 4, 5, 6, 7, 8, 9, 10, 11, 12, 13, 14, 15, 16, 17, 18, 19, 20, 21, 22, 23, 24, 25, 26, 27, 28, 29, 30, 31, 32, 33, 34, 35, 38, 39, 41, 42, 43, 44, 45, 46, 47, 48, 49, 50, 51, 52, 53, 54, 55] rfl rfl (by decide) (by decide +kernel) (by decide +kernel) rfl 36 rfl hl.1 rfl rfl (Nat.le_of_ble_eq_true rfl) dL_law_962 ⟨by rw [hR]; exact (show _ ≤ 600000 by omega), by rw [hR]; exact (show _ ≤ 7302250 by omega)⟩ (fun r_5 u_6 H locs hw hP hD hS => ?_)
  obtain ⟨hP, hD⟩ := PD_subF (X' := WXY cI cZ cM x0 y0 tx le td dr nw ac fa an kp ks sp ss sy sc sd tr ia Ftx lpe ltk lho lli lki lfd lfr lto lse lhl lFho lFli lFki lFfd lFfr lFto lFse lFhl dpe dtk dho dli dki dfd dfr dto dse dhl dFho dFli dFki dFfd dFfr dFto dFse dFhl md mt mr mg mat mfd mhd mFat mFfd mFhd Fac Fkp Fsp Fss Fsy mo rd zd zt zr zg zat zfd zhd zFat zFfd zFhd Frd Fia ype ytk ywi yki yse yno yrh yrw yrk yrt yrp yrq ytx yle yat yfa yby ylo yhi yac ynx yro ygl ysn yso ysp ysw ysd yik ykp Ywi Yki Yse Yno Yrh Yrw Yrk Yrt Ytx Yby Ylo Yhi Yro Ygl Yso Ysp Ysw Yik Ykp) hP hD [0, 1, 2, 3, 4, 5, 6, 7, 8, 9, 10, 11, 12, 13, 14, 15, 16, 17, 18, 19, 20, 21, 22, 23, 24, 25, 26, 27, 28, 29, 30, 31, 32, 33, 34, 35, 53, 55, 36, 37, 54, 38, 39, 40, 41, 42, 43, 44, 45, 46, 47, 48, 49, 50, 51, 52] (by decide +kernel) rfl
  delta WXY at hP hD
  refine W.widen (k := c0) (n := s0) (Nat.le_refl _) (Nat.le_refl _) ?_
  refine lv_pop hx hb dL_law_965 rfl ?_
  refine lv_goto (tgt := 969) hx hb dL_law_966 (by decide) ?_
  refine W.widen (k := c0 + 4) (n := s0 + 27) (by omega) (by omega) ?_
  exact hNext _ _ _ (stw_intro hP hD ⟨⟨hle0, hle1⟩, ⟨hfa0, hfa1⟩, ⟨han0, han1⟩, ⟨hsc0, hsc1⟩, ⟨hlpe0, hlpe1⟩, ⟨hltk0, hltk1⟩, ⟨hmd0, hmd1⟩, ⟨hmt0, hmt1⟩, ⟨hype0, hype1⟩, ⟨hytk0, hytk1⟩, ⟨hyle0, hyle1⟩, ⟨hyac0, hyac1⟩, ⟨hynx0, hynx1⟩, ⟨hysn0, hysn1⟩, hPoA, hPoK, hMsO, hByO, hle, hsd, hTX, hTxO, hlpt, hsct⟩) hS (lv_sub hl [0, 1, 2, 3] rfl)
