
theorem memP {big ws : List Cond} (ps : List Nat) (hp : ws = ps.filterMap (fun i => big[i]?)) : ∀ w ∈ ws, w ∈ big := by
  intro w hw
  rw [hp] at hw
  obtain ⟨i, -, hi⟩ := List.mem_filterMap.mp hw
  exact List.mem_of_getElem? hi
theorem memA {big a b : List Cond} (ha : ∀ w ∈ a, w ∈ big) (hb : ∀ w ∈ b, w ∈ big) : ∀ w ∈ a ++ b, w ∈ big := fun w h => (List.mem_append.mp h).elim (ha w) (hb w)

set_option maxRecDepth 20000 in
set_option maxHeartbeats 400000 in
theorem wl_wsL_law_r1 : ∀ w ∈ wsL_law_r1, w ∈ lw_tbl := memP [48, 49, 40, 606, 607, 44, 939, 50, 51, 52, 53, 54, 55, 112, 174, 175, 56, 57, 41, 176, 177, 113, 114, 42] rfl
set_option maxRecDepth 20000 in
set_option maxHeartbeats 400000 in
theorem wl_wsL_law_r2 : ∀ w ∈ wsL_law_r2, w ∈ lw_tbl := memP [178, 179, 180, 181, 182, 183, 184, 185, 186, 187, 188, 154, 155, 43, 189, 190, 59, 60, 61, 62, 66, 70, 72, 75] rfl
set_option maxRecDepth 20000 in
set_option maxHeartbeats 400000 in
theorem wl_wsL_law_r3 : ∀ w ∈ wsL_law_r3, w ∈ lw_tbl := memP [78, 80, 83, 86, 89, 115, 116, 117, 118, 120, 123, 125, 126, 128, 130, 133, 119, 156, 157, 158, 159, 165, 162, 160] rfl
set_option maxRecDepth 20000 in
set_option maxHeartbeats 400000 in
theorem wl_wsL_law_r4 : ∀ w ∈ wsL_law_r4, w ∈ lw_tbl := memP [163, 161, 608, 609, 610, 611, 614, 615, 616, 617, 618, 619, 620, 621, 624, 628, 629, 630, 633, 634, 636, 637, 638, 703] rfl
set_option maxRecDepth 20000 in
set_option maxHeartbeats 400000 in
theorem wl_wsL_law_r5 : ∀ w ∈ wsL_law_r5, w ∈ lw_tbl := memP [640, 641, 612, 226, 227, 228, 229, 704, 705, 706, 707, 708, 625, 709, 710, 711, 230, 231, 232, 233, 712, 713, 714, 715] rfl
set_option maxRecDepth 20000 in
set_option maxHeartbeats 400000 in
theorem wl_wsL_law_r6 : ∀ w ∈ wsL_law_r6, w ∈ lw_tbl := memP [234, 235, 236, 237, 238, 239, 240, 241, 242, 243, 244, 245, 246, 247, 248, 249, 250, 251, 252, 253, 254, 255, 256, 257] rfl
set_option maxRecDepth 20000 in
set_option maxHeartbeats 400000 in
theorem wl_wsL_law_r7 : ∀ w ∈ wsL_law_r7, w ∈ lw_tbl := memP [716, 717, 718, 719, 720, 722, 15, 723, 626, 627, 622, 623, 724, 726, 16, 727, 258, 259, 260, 261, 63, 69, 262, 263] rfl
set_option maxRecDepth 20000 in
set_option maxHeartbeats 400000 in
theorem wl_wsL_law_r8 : ∀ w ∈ wsL_law_r8, w ∈ lw_tbl := memP [264, 265, 266, 268, 267, 45, 269, 270, 271, 272, 67, 71, 273, 79, 90, 274, 276, 0, 277, 728, 729, 730, 731, 613] rfl
set_option maxRecDepth 20000 in
set_option maxHeartbeats 400000 in
theorem wl_wsL_law_r9 : ∀ w ∈ wsL_law_r9, w ∈ lw_tbl := memP [631, 278, 279, 280, 281, 129, 73, 76, 282, 283, 284, 285, 286, 287, 288, 289, 290, 291, 292, 293, 294, 296, 1, 297] rfl
set_option maxRecDepth 20000 in
set_option maxHeartbeats 400000 in
theorem wl_wsL_law_r10 : ∀ w ∈ wsL_law_r10, w ∈ lw_tbl := memP [166, 298, 299, 300, 301, 302, 303, 304, 305, 306, 85, 82, 77, 732, 733, 734, 735, 736, 738, 17, 739, 740, 742, 18] rfl
set_option maxRecDepth 20000 in
set_option maxHeartbeats 400000 in
theorem wl_wsL_law_r11 : ∀ w ∈ wsL_law_r11, w ∈ lw_tbl := memP [743, 744, 746, 19, 747, 748, 750, 20, 751, 307, 308, 309, 310, 132, 87, 135, 311, 312, 313, 314, 315, 316, 317, 318] rfl
set_option maxRecDepth 20000 in
set_option maxHeartbeats 400000 in
theorem wl_wsL_law_r12 : ∀ w ∈ wsL_law_r12, w ∈ lw_tbl := memP [319, 320, 321, 322, 323, 324, 325, 326, 327, 328, 752, 753, 754, 755, 756, 758, 21, 759, 329, 330, 331, 332, 122, 333] rfl
set_option maxRecDepth 20000 in
set_option maxHeartbeats 400000 in
theorem wl_wsL_law_r13 : ∀ w ∈ wsL_law_r13, w ∈ lw_tbl := memP [335, 2, 336, 337, 339, 3, 340, 341, 342, 343, 344, 345, 346, 347, 348, 65, 349, 350, 351, 352, 353, 354, 355, 760] rfl
set_option maxRecDepth 20000 in
set_option maxHeartbeats 400000 in
theorem wl_wsL_law_r14 : ∀ w ∈ wsL_law_r14, w ∈ lw_tbl := memP [761, 762, 763, 764, 766, 22, 767, 632, 768, 770, 23, 771, 772, 774, 24, 775, 356, 357, 358, 359, 360, 361, 362, 363] rfl
set_option maxRecDepth 20000 in
set_option maxHeartbeats 400000 in
theorem wl_wsL_law_r15 : ∀ w ∈ wsL_law_r15, w ∈ lw_tbl := memP [776, 777, 778, 779, 364, 365, 366, 367, 127, 780, 781, 782, 783, 368, 369, 370, 371, 372, 373, 374, 375, 376, 377, 378] rfl
set_option maxRecDepth 20000 in
set_option maxHeartbeats 400000 in
theorem wl_wsL_law_r16 : ∀ w ∈ wsL_law_r16, w ∈ lw_tbl := memP [379, 784, 785, 786, 787, 788, 790, 25, 791, 792, 794, 26, 795, 380, 381, 382, 383, 796, 797, 798, 799, 384, 385, 386] rfl
set_option maxRecDepth 20000 in
set_option maxHeartbeats 400000 in
theorem wl_wsL_law_r17 : ∀ w ∈ wsL_law_r17, w ∈ lw_tbl := memP [387, 164, 388, 389, 390, 391, 392, 393, 394, 395, 396, 121, 397, 800, 801, 802, 803, 804, 805, 807, 27, 808, 398, 399] rfl
set_option maxRecDepth 20000 in
set_option maxHeartbeats 400000 in
theorem wl_wsL_law_r18 : ∀ w ∈ wsL_law_r18, w ∈ lw_tbl := memP [400, 401, 402, 404, 4, 405, 406, 407, 408, 409, 410, 411, 412, 413, 422, 423, 46, 424, 419, 420, 421, 414, 415, 416] rfl
set_option maxRecDepth 20000 in
set_option maxHeartbeats 400000 in
theorem wl_wsL_law_r19 : ∀ w ∈ wsL_law_r19, w ∈ lw_tbl := memP [417, 418, 81, 84, 425, 426, 427, 428, 809, 810, 811, 812, 813, 815, 28, 816, 817, 819, 29, 820, 821, 822, 823, 429] rfl
set_option maxRecDepth 20000 in
set_option maxHeartbeats 400000 in
theorem wl_wsL_law_r20 : ∀ w ∈ wsL_law_r20, w ∈ lw_tbl := memP [430, 431, 432, 433, 434, 435, 436, 437, 438, 439, 440, 64, 441, 442, 443, 444, 88, 824, 825, 826, 827, 828, 830, 30] rfl
set_option maxRecDepth 20000 in
set_option maxHeartbeats 400000 in
theorem wl_wsL_law_r21 : ∀ w ∈ wsL_law_r21, w ∈ lw_tbl := memP [831, 445, 446, 447, 448, 449, 451, 5, 452, 453, 455, 6, 456, 832, 833, 834, 835, 836, 838, 31, 839, 457, 458, 459] rfl
set_option maxRecDepth 20000 in
set_option maxHeartbeats 400000 in
theorem wl_wsL_law_r22 : ∀ w ∈ wsL_law_r22, w ∈ lw_tbl := memP [460, 461, 462, 463, 464, 465, 466, 467, 468, 469, 74, 840, 841, 842, 843, 844, 846, 32, 847, 848, 850, 33, 851, 852] rfl
set_option maxRecDepth 20000 in
set_option maxHeartbeats 400000 in
theorem wl_wsL_law_r23 : ∀ w ∈ wsL_law_r23, w ∈ lw_tbl := memP [854, 34, 855, 856, 857, 858, 859, 861, 35, 862, 470, 471, 472, 473, 474, 475, 476, 477, 478, 479, 47, 480, 481, 482] rfl
set_option maxRecDepth 20000 in
set_option maxHeartbeats 400000 in
theorem wl_wsL_law_r24 : ∀ w ∈ wsL_law_r24, w ∈ lw_tbl := memP [483, 863, 864, 865, 866, 484, 485, 486, 487, 488, 489, 491, 7, 492, 867, 868, 869, 870, 871, 493, 494, 495, 496, 497] rfl
set_option maxRecDepth 20000 in
set_option maxHeartbeats 400000 in
theorem wl_wsL_law_r25 : ∀ w ∈ wsL_law_r25, w ∈ lw_tbl := memP [498, 499, 500, 501, 502, 503, 504, 505, 506, 507, 508, 509, 510, 511, 512, 513, 514, 516, 8, 517, 872, 873, 874, 875] rfl
set_option maxRecDepth 20000 in
set_option maxHeartbeats 400000 in
theorem wl_wsL_law_r26 : ∀ w ∈ wsL_law_r26, w ∈ lw_tbl := memP [876, 878, 36, 879, 880, 881, 882, 883, 884, 885, 518, 519, 520, 521, 522, 523, 524, 525, 527, 9, 528, 529, 530, 531] rfl
set_option maxRecDepth 20000 in
set_option maxHeartbeats 400000 in
theorem wl_wsL_law_r27 : ∀ w ∈ wsL_law_r27, w ∈ lw_tbl := memP [532, 533, 535, 10, 536, 537, 539, 11, 540, 541, 542, 543, 544, 68, 131, 134, 124, 545, 546, 547, 886, 887, 888, 889] rfl
set_option maxRecDepth 20000 in
set_option maxHeartbeats 400000 in
theorem wl_wsL_law_r28 : ∀ w ∈ wsL_law_r28, w ∈ lw_tbl := memP [890, 891, 893, 37, 894, 548, 549, 550, 551, 895, 896, 897, 898, 635, 552, 553, 554, 555, 899, 900, 901, 902, 556, 557] rfl
set_option maxRecDepth 20000 in
set_option maxHeartbeats 400000 in
theorem wl_wsL_law_r29 : ∀ w ∈ wsL_law_r29, w ∈ lw_tbl := memP [558, 559, 560, 562, 12, 563, 564, 566, 13, 567, 903, 904, 905, 906, 907, 909, 38, 910, 568, 569, 570, 571, 572, 573] rfl
set_option maxRecDepth 20000 in
set_option maxHeartbeats 400000 in
theorem wl_wsL_law_r30 : ∀ w ∈ wsL_law_r30, w ∈ lw_tbl := memP [574, 575, 577, 14, 578, 911, 912, 913, 914, 579, 580, 581, 582, 915, 916, 917, 918, 639, 583, 584, 585, 586, 587, 588] rfl
set_option maxRecDepth 20000 in
set_option maxHeartbeats 400000 in
theorem wl_wsL_law_r31 : ∀ w ∈ wsL_law_r31, w ∈ lw_tbl := memP [589, 919, 920, 921, 922, 923, 924, 925, 926, 590, 591, 592, 593, 594, 595, 596, 927, 928, 929, 930, 597, 598, 599, 600] rfl
set_option maxRecDepth 20000 in
set_option maxHeartbeats 400000 in
theorem wl_wsL_law_r32 : ∀ w ∈ wsL_law_r32, w ∈ lw_tbl := memP [931, 932, 933, 934, 601, 602, 603, 604, 605, 935, 936, 937, 938] rfl
set_option maxRecDepth 20000 in
set_option maxHeartbeats 400000 in
theorem wl_wsX30 : ∀ w ∈ wsX30, w ∈ lw_tbl := memP [191, 193, 195, 197, 199, 201, 203, 205, 207, 209, 211, 213, 215, 217, 219, 221, 223] rfl
set_option maxRecDepth 20000 in
set_option maxHeartbeats 400000 in
theorem wl_wsX40 : ∀ w ∈ wsX40, w ∈ lw_tbl := memP [642, 644, 646, 648, 650, 652, 654, 656, 658, 660, 662, 664, 666, 668, 670, 672, 674, 676, 678, 680, 682, 684, 686, 688, 690, 692, 694, 696, 698, 700] rfl
set_option maxRecDepth 20000 in
set_option maxHeartbeats 400000 in
theorem wl_wsX00 : ∀ w ∈ wsX00, w ∈ lw_tbl := memP [91, 93, 95, 97, 99, 101, 103, 105, 107, 109] rfl
set_option maxRecDepth 20000 in
set_option maxHeartbeats 400000 in
theorem wl_wsX10 : ∀ w ∈ wsX10, w ∈ lw_tbl := memP [136, 138, 140, 142, 144, 146, 148, 150] rfl
set_option maxRecDepth 20000 in
set_option maxHeartbeats 400000 in
theorem wl_wsX20 : ∀ w ∈ wsX20, w ∈ lw_tbl := memP [167, 169, 171] rfl
theorem wsL_law_in : ∀ w ∈ wsL_law, w ∈ lw_tbl := (memA (memA (memA (memA (memA (memA (memA wl_wsL_law_r1 (memA wl_wsL_law_r2 (memA wl_wsL_law_r3 (memA wl_wsL_law_r4 (memA wl_wsL_law_r5 (memA wl_wsL_law_r6 (memA wl_wsL_law_r7 (memA wl_wsL_law_r8 (memA wl_wsL_law_r9 (memA wl_wsL_law_r10 (memA wl_wsL_law_r11 (memA wl_wsL_law_r12 (memA wl_wsL_law_r13 (memA wl_wsL_law_r14 (memA wl_wsL_law_r15 (memA wl_wsL_law_r16 (memA wl_wsL_law_r17 (memA wl_wsL_law_r18 (memA wl_wsL_law_r19 (memA wl_wsL_law_r20 (memA wl_wsL_law_r21 (memA wl_wsL_law_r22 (memA wl_wsL_law_r23 (memA wl_wsL_law_r24 (memA wl_wsL_law_r25 (memA wl_wsL_law_r26 (memA wl_wsL_law_r27 (memA wl_wsL_law_r28 (memA wl_wsL_law_r29 (memA wl_wsL_law_r30 (memA wl_wsL_law_r31 wl_wsL_law_r32))))))))))))))))))))))))))))))) wl_wsX30) wl_wsX40) wl_wsX00) wl_wsX10) wl_wsX20) (fun w h => absurd h List.not_mem_nil))