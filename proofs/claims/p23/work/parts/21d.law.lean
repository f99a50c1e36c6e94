set_option maxRecDepth 20000 in
theorem ggL_law_X3_glad : GoodIn wsL_law wsX3_glad := goodIn_r _ [504, 38, 24, 386, 387, 388, 37, 389, 72, 390, 296, 297, 23, 298, 57, 58, 59, 60, 61, 180, 171, 172, 173, 62, 63, 505, 506, 507, 508, 509, 392, 393, 394, 395, 69, 396, 300, 301, 302, 64, 303, 304, 218, 219, 220, 221, 201, 202, 18, 203, 43, 222, 223, 224, 225, 226, 227, 228, 305, 257, 258, 259, 306, 269, 270, 271, 264, 265, 266, 267, 307, 308, 309, 310, 510, 511, 512, 513, 514, 757, 758, 759, 760, 761, 762, 763, 764, 765, 766, 767, 768, 769, 770, 771, 772, 773, 822, 823, 824, 814, 815, 816, 817, 818, 819, 820, 821, 804, 805, 806, 807, 808, 809, 810, 811, 812, 813] rfl (by decide +kernel)
set_option maxRecDepth 20000 in
theorem gL_law_X3_glad : GoodIn wsL_law (wsV RL 77 RX3 yX3_glad wsX3_glad) := goodIn_app (goodIn_r _ [501, 502, 503, 2] rfl (by decide +kernel)) ggL_law_X3_glad
set_option maxRecDepth 20000 in
theorem ggL_law_X4_glad : GoodIn wsL_law wsX4_glad := goodIn_r _ [518, 519, 520, 521, 5, 522, 191, 402, 403, 404, 405, 81, 523, 524, 525, 526, 527, 528, 529, 530, 320, 321, 322, 323, 98, 87, 88, 89, 245, 246, 247, 248, 79, 324, 325, 326, 327, 531, 532, 533, 534, 535, 536, 537, 78, 774, 775, 776, 777, 778, 779, 780, 781, 782, 783, 784, 785, 786, 787, 788, 789, 790, 791, 792, 793, 794, 795, 796, 797, 798, 799, 800, 801, 802, 803] rfl (by decide +kernel)
set_option maxRecDepth 20000 in
theorem gL_law_X4_glad : GoodIn wsL_law (wsV RL 80 RX4 yX4_glad wsX4_glad) := goodIn_app (goodIn_r _ [515, 516, 517, 5] rfl (by decide +kernel)) ggL_law_X4_glad
set_option maxRecDepth 20000 in
theorem ggL_law_X3_falls : GoodIn wsL_law wsX3_falls := goodIn_r _ [541, 24, 38, 385, 344, 256, 257, 258, 23, 259, 58, 386, 387, 388, 37, 389, 72, 390, 296, 297, 298, 57, 59, 60, 61, 180, 171, 172, 173, 62, 63, 542, 543, 544, 545, 395, 69, 396, 300, 301, 302, 64, 303, 304, 218, 219, 220, 221, 201, 202, 18, 203, 43, 222, 223, 224, 225, 226, 227, 228, 305, 306, 269, 270, 271, 264, 265, 266, 267, 307, 308, 309, 310, 546, 547, 548, 549, 550, 551, 552, 757, 758, 759, 760, 761, 762, 763, 764, 765, 766, 767, 768, 769, 770, 771, 772, 773, 822, 823, 824, 814, 815, 816, 817, 818, 819, 820, 821, 804, 805, 806, 807, 808, 809, 810, 811, 812, 813] rfl (by decide +kernel)
set_option maxRecDepth 20000 in
theorem gL_law_X3_falls : GoodIn wsL_law (wsV RL 81 RX3 yX3_falls wsX3_falls) := goodIn_app (goodIn_r _ [538, 539, 540, 2] rfl (by decide +kernel)) ggL_law_X3_falls
set_option maxRecDepth 20000 in
theorem ggL_law_X4_falls : GoodIn wsL_law wsX4_falls := goodIn_r _ [556, 191, 278, 279, 280, 5, 281, 109, 110, 111, 402, 403, 404, 405, 81, 527, 528, 529, 530, 320, 321, 322, 323, 98, 87, 88, 89, 245, 246, 247, 248, 79, 324, 325, 326, 327, 531, 532, 533, 523, 524, 525, 526, 774, 775, 776, 777, 778, 779, 780, 781, 782, 783, 784, 785, 786, 787, 788, 789, 790, 791, 792, 793, 794, 795, 796, 797, 798, 799, 800, 801, 802, 803] rfl (by decide +kernel)
set_option maxRecDepth 20000 in
theorem gL_law_X4_falls : GoodIn wsL_law (wsV RL 84 RX4 yX4_falls wsX4_falls) := goodIn_app (goodIn_r _ [553, 554, 555, 5] rfl (by decide +kernel)) ggL_law_X4_falls
set_option maxRecDepth 20000 in
theorem ggL_law_X3_bestChange : GoodIn wsL_law wsX3_bestChange := goodIn_r _ [560, 19, 165, 561, 502, 503, 2, 504, 38, 24, 386, 387, 388, 37, 389, 72, 390, 296, 297, 23, 298, 57, 58, 59, 60, 61, 180, 171, 172, 173, 62, 63, 505, 506, 507, 508, 509, 392, 393, 394, 395, 69, 396, 300, 301, 302, 64, 303, 304, 218, 219, 220, 221, 201, 202, 18, 203, 43, 222, 223, 224, 225, 226, 227, 228, 305, 257, 258, 259, 306, 269, 270, 271, 264, 265, 266, 267, 307, 308, 309, 310, 510, 511, 512, 513, 514, 562, 563, 564, 565, 385, 353, 354, 355, 356, 208, 209, 210, 211, 357, 358, 359, 360, 757, 758, 759, 760, 761, 762, 763, 764, 765, 766, 767, 768, 769, 770, 771, 772, 773, 804, 805, 806, 807, 808, 809, 810, 811, 812, 813, 822, 823, 824, 814, 815, 816, 817, 818, 819, 820, 821] rfl (by decide +kernel)
set_option maxRecDepth 20000 in
theorem gL_law_X3_bestChange : GoodIn wsL_law (wsV RL 85 RX3 yX3_bestChange wsX3_bestChange) := goodIn_app (goodIn_r _ [557, 558, 559, 2] rfl (by decide +kernel)) ggL_law_X3_bestChange
set_option maxRecDepth 20000 in
theorem ggL_law_X4_bestChange : GoodIn wsL_law wsX4_bestChange := goodIn_r _ [569, 191, 570, 516, 517, 5, 518, 519, 520, 521, 522, 402, 403, 404, 405, 81, 523, 524, 525, 526, 527, 528, 529, 530, 320, 321, 322, 323, 98, 87, 88, 89, 245, 246, 247, 248, 79, 324, 325, 326, 327, 531, 532, 533, 534, 535, 536, 537, 78, 365, 366, 367, 368, 237, 238, 239, 240, 241, 242, 243, 244, 369, 370, 371, 372, 774, 775, 776, 777, 778, 779, 780, 781, 782, 783, 784, 785, 786, 787, 788, 789, 790, 791, 792, 793, 794, 795, 796, 797, 798, 799, 800, 801, 802, 803] rfl (by decide +kernel)
set_option maxRecDepth 20000 in
theorem gL_law_X4_bestChange : GoodIn wsL_law (wsV RL 88 RX4 yX4_bestChange wsX4_bestChange) := goodIn_app (goodIn_r _ [566, 567, 568, 5] rfl (by decide +kernel)) ggL_law_X4_bestChange
set_option maxRecDepth 20000 in
theorem ggL_law_X3_share : GoodIn wsL_law wsX3_share := goodIn_r _ [574, 24, 256, 257, 258, 23, 259, 58, 273, 209, 210, 211, 60, 575, 576, 2, 577, 578, 579, 424, 580, 581, 582, 583, 584, 585, 586, 587, 588, 547, 548, 549, 550, 551, 552, 589, 590, 591, 592, 593, 594, 595, 38, 385, 344, 386, 387, 388, 37, 389, 72, 390, 296, 297, 298, 57, 59, 61, 180, 171, 172, 173, 62, 63, 505, 506, 507, 508, 509, 392, 393, 394, 395, 69, 396, 300, 301, 302, 64, 303, 304, 218, 219, 220, 221, 201, 202, 18, 203, 43, 222, 223, 224, 225, 226, 227, 228, 305, 306, 269, 270, 271, 264, 265, 266, 267, 307, 308, 309, 310, 510, 511, 512, 513, 514, 757, 758, 759, 760, 761, 762, 763, 764, 765, 766, 767, 768, 769, 770, 771, 772, 773, 814, 815, 816, 817, 818, 819, 820, 821, 822, 823, 824, 804, 805, 806, 807, 808, 809, 810, 811, 812, 813] rfl (by decide +kernel)
set_option maxRecDepth 20000 in
theorem gL_law_X3_share : GoodIn wsL_law (wsV RL 89 RX3 yX3_share wsX3_share) := goodIn_app (goodIn_r _ [571, 572, 573, 2] rfl (by decide +kernel)) ggL_law_X3_share
set_option maxRecDepth 20000 in
theorem ggL_law_X4_share : GoodIn wsL_law wsX4_share := goodIn_r _ [599, 191, 91, 278, 279, 280, 5, 281, 109, 110, 111, 237, 238, 239, 240, 81, 600, 601, 602, 603, 531, 532, 533, 519, 520, 521, 522, 402, 403, 404, 405, 523, 524, 525, 526, 527, 528, 529, 530, 320, 321, 322, 323, 98, 87, 88, 89, 245, 246, 247, 248, 79, 324, 325, 326, 327, 534, 535, 536, 537, 78, 452, 453, 454, 604, 605, 606, 607, 608, 609, 774, 775, 776, 777, 778, 779, 780, 781, 782, 783, 784, 785, 786, 787, 788, 789, 790, 791, 792, 793, 794, 795, 796, 797, 798, 799, 800, 801, 802, 803] rfl (by decide +kernel)
set_option maxRecDepth 20000 in
theorem gL_law_X4_share : GoodIn wsL_law (wsV RL 93 RX4 yX4_share wsX4_share) := goodIn_app (goodIn_r _ [596, 597, 598, 5] rfl (by decide +kernel)) ggL_law_X4_share
set_option maxRecDepth 20000 in
theorem ggL_law_X3_blank : GoodIn wsL_law wsX3_blank := goodIn_r _ [613, 19, 199, 39, 200, 201, 202, 18, 203, 43, 614, 615, 2, 616, 617, 618, 619, 620, 38, 24, 286, 385, 197, 216, 386, 387, 388, 37, 389, 72, 390, 296, 297, 23, 298, 57, 58, 59, 60, 61, 180, 171, 172, 173, 62, 63, 299, 300, 301, 302, 64, 303, 304, 218, 219, 220, 221, 222, 223, 224, 225, 226, 227, 228, 305, 257, 258, 259, 306, 269, 270, 271, 264, 265, 266, 267, 307, 308, 309, 310, 621, 464, 465, 466, 70, 467, 69, 418, 419, 420, 421, 422, 423, 424, 425, 426, 427, 428, 429, 430, 431, 432, 433, 434, 435, 436, 437, 438, 439, 468, 469, 470, 471, 472, 622, 623, 624, 625, 626, 627, 628, 629, 630, 631, 632, 633, 634, 635, 636, 637, 638, 639, 640, 641, 642, 643, 757, 758, 759, 760, 761, 762, 763, 764, 765, 766, 767, 768, 769, 770, 771, 772, 773, 804, 805, 806, 807, 808, 809, 810, 811, 812, 813, 814, 815, 816, 817, 818, 819, 820, 821, 822, 823, 824] rfl (by decide +kernel)
set_option maxRecDepth 20000 in
theorem gL_law_X3_blank : GoodIn wsL_law (wsV RL 94 RX3 yX3_blank wsX3_blank) := goodIn_app (goodIn_r _ [610, 611, 612, 2] rfl (by decide +kernel)) ggL_law_X3_blank
set_option maxRecDepth 20000 in
theorem ggL_law_X4_blank : GoodIn wsL_law wsX4_blank := goodIn_r _ [647, 648, 79, 233, 234, 235, 5, 236, 98, 109, 110, 111, 649, 650, 651, 652, 191, 81, 80, 402, 403, 404, 405, 320, 321, 322, 323, 87, 88, 89, 245, 246, 247, 248, 324, 325, 326, 327, 477, 478, 479, 480, 448, 449, 450, 451, 452, 453, 454, 774, 775, 776, 777, 778, 779, 780, 781, 782, 783, 784, 785, 786, 787, 788, 789, 790, 791, 792, 793, 794, 795, 796, 797, 798, 799, 800, 801, 802, 803] rfl (by decide +kernel)
set_option maxRecDepth 20000 in
theorem gL_law_X4_blank : GoodIn wsL_law (wsV RL 97 RX4 yX4_blank wsX4_blank) := goodIn_app (goodIn_r _ [644, 645, 646, 5] rfl (by decide +kernel)) ggL_law_X4_blank
theorem dL_law_545 : decode cL_law 545 = .ok (.aload_n 1, 1) := by decide +kernel
theorem dL_law_546 : decode cL_law 546 = .ok (.invokevirtual 77, 3) := by decide +kernel
theorem dL_law_549 : decode cL_law 549 = .ok (.pop, 1) := by decide +kernel
theorem dL_law_550 : decode cL_law 550 = .ok (.aload_n 2, 1) := by decide +kernel
theorem dL_law_551 : decode cL_law 551 = .ok (.invokevirtual 80, 3) := by decide +kernel
theorem dL_law_554 : decode cL_law 554 = .ok (.pop, 1) := by decide +kernel
theorem dL_law_555 : decode cL_law 555 = .ok (.goto 414, 3) := by decide +kernel
theorem dL_law_558 : decode cL_law 558 = .ok (.aload_n 1, 1) := by decide +kernel
theorem dL_law_559 : decode cL_law 559 = .ok (.aload_n 0, 1) := by decide +kernel
theorem dL_law_560 : decode cL_law 560 = .ok (.iload_n 3, 1) := by decide +kernel
theorem dL_law_561 : decode cL_law 561 = .ok (.iconst 1, 1) := by decide +kernel
theorem dL_law_562 : decode cL_law 562 = .ok (.iadd, 1) := by decide +kernel
theorem dL_law_563 : decode cL_law 563 = .ok (.iaload, 1) := by decide +kernel
theorem dL_law_564 : decode cL_law 564 = .ok (.invokevirtual 81, 3) := by decide +kernel
theorem dL_law_567 : decode cL_law 567 = .ok (.pop, 1) := by decide +kernel
theorem dL_law_568 : decode cL_law 568 = .ok (.aload_n 2, 1) := by decide +kernel
theorem dL_law_569 : decode cL_law 569 = .ok (.aload_n 0, 1) := by decide +kernel
theorem dL_law_570 : decode cL_law 570 = .ok (.iload_n 3, 1) := by decide +kernel
theorem dL_law_571 : decode cL_law 571 = .ok (.iconst 1, 1) := by decide +kernel
theorem dL_law_572 : decode cL_law 572 = .ok (.iadd, 1) := by decide +kernel
theorem dL_law_573 : decode cL_law 573 = .ok (.iaload, 1) := by decide +kernel
theorem dL_law_574 : decode cL_law 574 = .ok (.invokevirtual 84, 3) := by decide +kernel
theorem dL_law_577 : decode cL_law 577 = .ok (.pop, 1) := by decide +kernel
theorem dL_law_578 : decode cL_law 578 = .ok (.goto 391, 3) := by decide +kernel
theorem dL_law_581 : decode cL_law 581 = .ok (.aload_n 1, 1) := by decide +kernel
theorem dL_law_582 : decode cL_law 582 = .ok (.invokevirtual 85, 3) := by decide +kernel
theorem dL_law_585 : decode cL_law 585 = .ok (.pop, 1) := by decide +kernel
theorem dL_law_586 : decode cL_law 586 = .ok (.aload_n 2, 1) := by decide +kernel
theorem dL_law_587 : decode cL_law 587 = .ok (.invokevirtual 88, 3) := by decide +kernel
theorem dL_law_590 : decode cL_law 590 = .ok (.pop, 1) := by decide +kernel
theorem dL_law_591 : decode cL_law 591 = .ok (.goto 378, 3) := by decide +kernel
theorem dL_law_594 : decode cL_law 594 = .ok (.aload_n 1, 1) := by decide +kernel
theorem dL_law_595 : decode cL_law 595 = .ok (.aload_n 0, 1) := by decide +kernel
theorem dL_law_596 : decode cL_law 596 = .ok (.iload_n 3, 1) := by decide +kernel
theorem dL_law_597 : decode cL_law 597 = .ok (.iconst 1, 1) := by decide +kernel
theorem dL_law_598 : decode cL_law 598 = .ok (.iadd, 1) := by decide +kernel
theorem dL_law_599 : decode cL_law 599 = .ok (.iaload, 1) := by decide +kernel
theorem dL_law_600 : decode cL_law 600 = .ok (.aload_n 0, 1) := by decide +kernel
theorem dL_law_601 : decode cL_law 601 = .ok (.iload_n 3, 1) := by decide +kernel
theorem dL_law_602 : decode cL_law 602 = .ok (.iconst 2, 1) := by decide +kernel
theorem dL_law_603 : decode cL_law 603 = .ok (.iadd, 1) := by decide +kernel
theorem dL_law_604 : decode cL_law 604 = .ok (.iaload, 1) := by decide +kernel
theorem dL_law_605 : decode cL_law 605 = .ok (.ifCond .eq 7, 3) := by decide +kernel
theorem dL_law_608 : decode cL_law 608 = .ok (.iconst 1, 1) := by decide +kernel
theorem dL_law_609 : decode cL_law 609 = .ok (.goto 4, 3) := by decide +kernel
theorem dL_law_612 : decode cL_law 612 = .ok (.iconst 0, 1) := by decide +kernel
theorem dL_law_613 : decode cL_law 613 = .ok (.invokevirtual 89, 3) := by decide +kernel
theorem dL_law_616 : decode cL_law 616 = .ok (.pop, 1) := by decide +kernel
theorem dL_law_617 : decode cL_law 617 = .ok (.aload_n 2, 1) := by decide +kernel
theorem dL_law_618 : decode cL_law 618 = .ok (.aload_n 0, 1) := by decide +kernel
theorem dL_law_619 : decode cL_law 619 = .ok (.iload_n 3, 1) := by decide +kernel
theorem dL_law_620 : decode cL_law 620 = .ok (.iconst 1, 1) := by decide +kernel
theorem dL_law_621 : decode cL_law 621 = .ok (.iadd, 1) := by decide +kernel
theorem dL_law_622 : decode cL_law 622 = .ok (.iaload, 1) := by decide +kernel
theorem dL_law_623 : decode cL_law 623 = .ok (.aload_n 0, 1) := by decide +kernel
theorem dL_law_624 : decode cL_law 624 = .ok (.iload_n 3, 1) := by decide +kernel
theorem dL_law_625 : decode cL_law 625 = .ok (.iconst 2, 1) := by decide +kernel
theorem dL_law_626 : decode cL_law 626 = .ok (.iadd, 1) := by decide +kernel
theorem dL_law_627 : decode cL_law 627 = .ok (.iaload, 1) := by decide +kernel
theorem dL_law_628 : decode cL_law 628 = .ok (.ifCond .eq 7, 3) := by decide +kernel
theorem dL_law_631 : decode cL_law 631 = .ok (.iconst 1, 1) := by decide +kernel
theorem dL_law_632 : decode cL_law 632 = .ok (.goto 4, 3) := by decide +kernel
theorem dL_law_635 : decode cL_law 635 = .ok (.iconst 0, 1) := by decide +kernel
theorem dL_law_636 : decode cL_law 636 = .ok (.invokevirtual 93, 3) := by decide +kernel
theorem dL_law_639 : decode cL_law 639 = .ok (.pop, 1) := by decide +kernel
theorem dL_law_640 : decode cL_law 640 = .ok (.goto 329, 3) := by decide +kernel
theorem dL_law_643 : decode cL_law 643 = .ok (.aload_n 1, 1) := by decide +kernel
theorem dL_law_644 : decode cL_law 644 = .ok (.aload_n 0, 1) := by decide +kernel
theorem dL_law_645 : decode cL_law 645 = .ok (.iload_n 3, 1) := by decide +kernel
theorem dL_law_646 : decode cL_law 646 = .ok (.iconst 1, 1) := by decide +kernel
theorem dL_law_647 : decode cL_law 647 = .ok (.iadd, 1) := by decide +kernel
theorem dL_law_648 : decode cL_law 648 = .ok (.iaload, 1) := by decide +kernel
theorem dL_law_649 : decode cL_law 649 = .ok (.aload_n 0, 1) := by decide +kernel
theorem dL_law_650 : decode cL_law 650 = .ok (.iload_n 3, 1) := by decide +kernel
theorem dL_law_651 : decode cL_law 651 = .ok (.iconst 2, 1) := by decide +kernel
theorem dL_law_652 : decode cL_law 652 = .ok (.iadd, 1) := by decide +kernel
theorem dL_law_653 : decode cL_law 653 = .ok (.iaload, 1) := by decide +kernel
theorem dL_law_654 : decode cL_law 654 = .ok (.invokevirtual 94, 3) := by decide +kernel
theorem dL_law_657 : decode cL_law 657 = .ok (.pop, 1) := by decide +kernel
theorem dL_law_658 : decode cL_law 658 = .ok (.aload_n 2, 1) := by decide +kernel
theorem dL_law_659 : decode cL_law 659 = .ok (.aload_n 0, 1) := by decide +kernel
theorem dL_law_660 : decode cL_law 660 = .ok (.iload_n 3, 1) := by decide +kernel
theorem dL_law_661 : decode cL_law 661 = .ok (.iconst 1, 1) := by decide +kernel
theorem dL_law_662 : decode cL_law 662 = .ok (.iadd, 1) := by decide +kernel
theorem dL_law_663 : decode cL_law 663 = .ok (.iaload, 1) := by decide +kernel
theorem dL_law_664 : decode cL_law 664 = .ok (.aload_n 0, 1) := by decide +kernel
theorem dL_law_665 : decode cL_law 665 = .ok (.iload_n 3, 1) := by decide +kernel
theorem dL_law_666 : decode cL_law 666 = .ok (.iconst 2, 1) := by decide +kernel
theorem dL_law_667 : decode cL_law 667 = .ok (.iadd, 1) := by decide +kernel
theorem dL_law_668 : decode cL_law 668 = .ok (.iaload, 1) := by decide +kernel
theorem dL_law_669 : decode cL_law 669 = .ok (.invokevirtual 97, 3) := by decide +kernel
theorem dL_law_672 : decode cL_law 672 = .ok (.pop, 1) := by decide +kernel
theorem dL_law_673 : decode cL_law 673 = .ok (.goto 296, 3) := by decide +kernel
set_option maxHeartbeats 1000000 in
set_option maxRecDepth 100000 in
theorem law_c15 {p : Program} {l : Launch} {e : Env} {s : State} {m : MethodId} {below : List Frame} {meth : Method} {c : Code} {b LN : Nat} {xs : Nat → Int32} {A : Nat → Prop} {args : Array Value} {R : Room} {Q : State → Prop} (hB : Lb p s m args meth c b xs A LN) (hR : R = room_1) (D : va_G) (cI cZ cM : ClassId) (hK : va_K D vwCl (ty3 cI cZ cM) s) {x0 y0 : Nat} {H : Heap} {locs : List Loc} {ls : Array Slot} {c0 s0 : Nat} (hc : c0 + 4 ≤ 600000) (hs : s0 + 27 ≤ 7302250) {ix : Int32} (hixa : 0 ≤ ix.toInt) (hixb : ix.toInt + 5 ≤ (LN : Int)) (hLN : LN ≤ 320) (hSt : StW D cI cZ cM A x0 y0 H) (hS : va_S A s.heap H locs) (hl : lv_has ls 4 [(0, .ref b), (1, .ref x0), (2, .ref y0), (3, .int ix)]) (hNext : ∀ (H : Heap) (locs : List Loc) (ls : Array Slot), StW D cI cZ cM A x0 y0 H → va_S A s.heap H locs → lv_has ls 4 [(0, .ref b), (1, .ref x0), (2, .ref y0), (3, .int ix)] → W p l e R s m args below meth c H locs (c0 + 4) (s0 + 27) Q (F0 m 969 ls [])) : W p l e R s m args below meth c H locs c0 s0 Q (F0 m 545 ls []) := by
  obtain ⟨hx, hb, hr, hml, hown, hts, hX, hbl, hlocks, hA, hAf⟩ := hB
  have hbA : ¬ A b := fun q => absurd (hAf b q) (Nat.not_le.mpr hbl)
  refine stw_elim hSt ?_
  intro tx le td dr nw ac fa an kp ks sp ss sy sc sd tr ia Ftx lpe ltk lho lli lki lfd lfr lto lse lhl lFho lFli lFki lFfd lFfr lFto lFse lFhl dpe dtk dho dli dki dfd dfr dto dse dhl dFho dFli dFki dFfd dFfr dFto dFse dFhl md mt mr mg mat mfd mhd mFat mFfd mFhd Fac Fkp Fsp Fss Fsy mo rd zd zt zr zg zat zfd zhd zFat zFfd zFhd Frd Fia ype ytk ywi yki yse yno yrh yrw yrk yrt yrp yrq ytx yle yat yfa yby ylo yhi yac ynx yro ygl ysn yso ysp ysw ysd yik ykp Ywi Yki Yse Yno Yrh Yrw Yrk Yrt Ytx Yby Ylo Yhi Yro Ygl Yso Ysp Ysw Yik Ykp L hI hP hD
  obtain ⟨⟨hle0, hle1⟩, ⟨hfa0, hfa1⟩, ⟨han0, han1⟩, ⟨hsc0, hsc1⟩, ⟨hlpe0, hlpe1⟩, ⟨hltk0, hltk1⟩, ⟨hmd0, hmd1⟩, ⟨hmt0, hmt1⟩, ⟨hype0, hype1⟩, ⟨hytk0, hytk1⟩, ⟨hyle0, hyle1⟩, ⟨hyac0, hyac1⟩, ⟨hynx0, hynx1⟩, ⟨hysn0, hysn1⟩, hPoA, hPoK, hMsO, hByO, hle, hsd, hTX, hTxO, hlpt, hsct⟩ := hI
  have hlet : le.toInt = yle.toInt := by rw [hle]
  have hTxY : TxOk Ytx := hTX ▸ hTxO
  have hFL : flt Ytx yle.toInt = flt Ftx le.toInt := by rw [hTX, hle]
  have hFL_1 : (flt Ytx yle.toInt).1 = (flt Ftx le.toInt).1 := by rw [hFL]
  have hFL_2_1 : (flt Ytx yle.toInt).2.1 = (flt Ftx le.toInt).2.1 := by rw [hFL]
  have hFL_2_2 : (flt Ytx yle.toInt).2.2 = (flt Ftx le.toInt).2.2 := by rw [hFL]
  have hsdt : sd.toInt = ysd.toInt := by rw [hsd]
  obtain ⟨a1, ha1⟩ : ∃ z : Int32, xs (ix + 1 : Int32).toNatClampNeg = z := ⟨_, rfl⟩
  obtain ⟨a2, ha2⟩ : ∃ z : Int32, xs (ix + 2 : Int32).toNatClampNeg = z := ⟨_, rfl⟩
  obtain ⟨a3, ha3⟩ : ∃ z : Int32, xs (ix + 3 : Int32).toNatClampNeg = z := ⟨_, rfl⟩
  obtain ⟨a4, ha4⟩ : ∃ z : Int32, xs (ix + 4 : Int32).toNatClampNeg = z := ⟨_, rfl⟩
  refine lv_aload_n hx hb dL_law_545 rfl (lv_at hl 1 rfl) ?_
  refine fV_i (As := []) (rest := []) ⟨hx, hb, hml, hown, hts⟩ (c_X3_glad l D cI cZ cM x0 tx le td dr nw ac fa an kp ks sp ss sy sc sd tr ia lpe ltk lho lli lki lfd lfr lto lse lhl lFto lFfr lFki lFli md mt mr mg mat mfd mhd mFat mFfd mFhd mo rd zd zt zr zg zat zfd zhd zFat zFfd zFhd Frd _ (show 0 ≤ md.toInt ∧ md.toInt ≤ 10 by omega) (show 0 ≤ mt.toInt ∧ mt.toInt ≤ 6 by omega) (show 0 ≤ lpe.toInt ∧ lpe.toInt ≤ 5 by omega)) (cwV 0 hts gL_law_X3_glad rfl rfl rfl (by decide +kernel) ⟨by rw [hR]; decide, by rw [hR]; decide⟩) hK hP hD hS hA [0, 2, 8, 7, 5, 4, 20, 21, 22, 23, 29, 30, 31, 32, 33, 34] [1, 3, 6, 9, 10, 11, 12, 13, 14, 15, 16, 17, 18, 19, 24, 25, 26, 27, 28, 35, 36, 37, 38, 39, 40, 41, 42, 43, 44, 45, 46, 47, 48, 49, 50, 51, 52, 53, 54, 55] rfl rfl (by decide +kernel) (by decide +kernel) (by decide +kernel) rfl 0 rfl hl.1 rfl rfl (Nat.le_of_ble_eq_true rfl) dL_law_546 ⟨by rw [hR]; exact (show _ ≤ 600000 by omega), by rw [hR]; exact (show _ ≤ 7302250 by omega)⟩ (fun r_9 u_10 H locs hw hP hD hS => ?_)
  obtain ⟨zd1_1, zt1_2, zr1_3, zg1_4, Gzat_5, Gzfd_6, Gzhd_7, Grd_8⟩ := u_10
  obtain ⟨hP, hD⟩ := PD_subF (X' := WXY cI cZ cM x0 y0 tx le td dr nw ac fa an kp ks sp ss sy sc sd tr ia Ftx lpe ltk lho lli lki lfd lfr lto lse lhl lFho lFli lFki lFfd lFfr lFto lFse lFhl dpe dtk dho dli dki dfd dfr dto dse dhl dFho dFli dFki dFfd dFfr dFto dFse dFhl md mt mr mg mat mfd mhd mFat mFfd mFhd Fac Fkp Fsp Fss Fsy mo rd zd1_1 zt1_2 zr1_3 zg1_4 zat zfd zhd Gzat_5 Gzfd_6 Gzhd_7 Grd_8 Fia ype ytk ywi yki yse yno yrh yrw yrk yrt yrp yrq ytx yle yat yfa yby ylo yhi yac ynx yro ygl ysn yso ysp ysw ysd yik ykp Ywi Yki Yse Yno Yrh Yrw Yrk Yrt Ytx Yby Ylo Yhi Yro Ygl Yso Ysp Ysw Yik Ykp) hP hD [40, 0, 41, 1, 45, 44, 2, 43, 42, 3, 4, 5, 6, 7, 8, 9, 10, 11, 12, 13, 46, 47, 48, 49, 14, 15, 16, 17, 18, 50, 51, 52, 53, 54, 55, 19, 20, 21, 22, 23, 24, 25, 26, 27, 28, 29, 30, 31, 32, 33, 34, 35, 36, 37, 38, 39] (by decide +kernel) rfl
  delta WXY at hP hD
  refine W.widen (k := c0) (n := s0) (Nat.le_refl _) (Nat.le_refl _) ?_
  have hw : 0 ≤ r_9.toInt ∧ r_9.toInt ≤ lpe.toInt := hw
  have hw_11 := hw
  obtain ⟨hw_11a, hw_11b⟩ := hw_11
  refine lv_pop hx hb dL_law_549 rfl ?_
  refine lv_aload_n hx hb dL_law_550 rfl (lv_at hl 2 rfl) ?_
  refine fV_i (As := []) (rest := []) ⟨hx, hb, hml, hown, hts⟩ (c_X4_glad l D cI cZ cM y0 ype ytk ywi yki yse yno yrh yrw yrk yrt yrp yrq ytx yle yat yfa yby ylo yhi yac ynx yro ygl ysn yso ysp ysw ysd yik ykp Yno Yki Yby Ylo Yhi Ywi _ hByO (show 0 ≤ ype.toInt ∧ ype.toInt ≤ 5 by omega) (show 0 ≤ ytk.toInt ∧ ytk.toInt ≤ 6 by omega)) (cwV 0 hts gL_law_X4_glad rfl rfl rfl (by decide +kernel) ⟨by rw [hR]; decide, by rw [hR]; decide⟩) hK hP hD hS hA [36, 40, 38, 46, 47, 48, 37] [0, 1, 2, 3, 4, 5, 6, 7, 8, 9, 10, 11, 12, 13, 14, 15, 16, 17, 18, 19, 20, 21, 22, 23, 24, 25, 26, 27, 28, 29, 30, 31, 32, 33, 34, 35, 39, 41, 42, 43, 44, 45, 49, 50, 51, 52, 53, 54, 55] rfl rfl (by decide) (by decide +kernel) (by decide +kernel) rfl 36 rfl hl.1 rfl rfl (Nat.le_of_ble_eq_true rfl) dL_law_551 ⟨by rw [hR]; exact (show _ ≤ 600000 by omega), by rw [hR]; exact (show _ ≤ 7302250 by omega)⟩ (fun r_16 u_17 H locs hw hP hD hS => ?_)
  obtain ⟨Gno_12, Gby_13, Glo_14, Ghi_15⟩ := u_17
  obtain ⟨hP, hD⟩ := PD_subF (X' := WXY cI cZ cM x0 y0 tx le td dr nw ac fa an kp ks sp ss sy sc sd tr ia Ftx lpe ltk lho lli lki lfd lfr lto lse lhl lFho lFli lFki lFfd lFfr lFto lFse lFhl dpe dtk dho dli dki dfd dfr dto dse dhl dFho dFli dFki dFfd dFfr dFto dFse dFhl md mt mr mg mat mfd mhd mFat mFfd mFhd Fac Fkp Fsp Fss Fsy mo rd zd1_1 zt1_2 zr1_3 zg1_4 zat zfd zhd Gzat_5 Gzfd_6 Gzhd_7 Grd_8 Fia ype ytk ywi yki yse yno yrh yrw yrk yrt yrp yrq ytx yle yat yfa yby ylo yhi yac ynx yro ygl ysn yso ysp ysw ysd yik ykp Ywi Yki Yse Gno_12 Yrh Yrw Yrk Yrt Ytx Gby_13 Glo_14 Ghi_15 Yro Ygl Yso Ysp Ysw Yik Ykp) hP hD [0, 1, 2, 3, 4, 5, 6, 7, 8, 9, 10, 11, 12, 13, 14, 15, 16, 17, 18, 19, 20, 21, 22, 23, 24, 25, 26, 27, 28, 29, 30, 31, 32, 33, 34, 35, 49, 55, 51, 36, 50, 37, 38, 39, 40, 41, 52, 53, 54, 42, 43, 44, 45, 46, 47, 48] (by decide +kernel) rfl
  delta WXY at hP hD
  refine W.widen (k := c0) (n := s0) (Nat.le_refl _) (Nat.le_refl _) ?_
  have hw : ByOk Gby_13 := hw
  have hw_18 := hw
  refine lv_pop hx hb dL_law_554 rfl ?_
  refine lv_goto (tgt := 969) hx hb dL_law_555 (by decide) ?_
  refine W.widen (k := c0 + 4) (n := s0 + 27) (by omega) (by omega) ?_
  exact hNext _ _ _ (stw_intro hP hD ⟨⟨hle0, hle1⟩, ⟨hfa0, hfa1⟩, ⟨han0, han1⟩, ⟨hsc0, hsc1⟩, ⟨hlpe0, hlpe1⟩, ⟨hltk0, hltk1⟩, ⟨hmd0, hmd1⟩, ⟨hmt0, hmt1⟩, ⟨hype0, hype1⟩, ⟨hytk0, hytk1⟩, ⟨hyle0, hyle1⟩, ⟨hyac0, hyac1⟩, ⟨hynx0, hynx1⟩, ⟨hysn0, hysn1⟩, hPoA, hPoK, hMsO, hw_18, hle, hsd, hTX, hTxO, hlpt, hsct⟩) hS (lv_sub hl [0, 1, 2, 3] rfl)

set_option maxHeartbeats 1000000 in
set_option maxRecDepth 100000 in
theorem law_c16 {p : Program} {l : Launch} {e : Env} {s : State} {m : MethodId} {below : List Frame} {meth : Method} {c : Code} {b LN : Nat} {xs : Nat → Int32} {A : Nat → Prop} {args : Array Value} {R : Room} {Q : State → Prop} (hB : Lb p s m args meth c b xs A LN) (hR : R = room_1) (D : va_G) (cI cZ cM : ClassId) (hK : va_K D vwCl (ty3 cI cZ cM) s) {x0 y0 : Nat} {H : Heap} {locs : List Loc} {ls : Array Slot} {c0 s0 : Nat} (hc : c0 + 4 ≤ 600000) (hs : s0 + 27 ≤ 7302250) {ix : Int32} (hixa : 0 ≤ ix.toInt) (hixb : ix.toInt + 5 ≤ (LN : Int)) (hLN : LN ≤ 320) (hSt : StW D cI cZ cM A x0 y0 H) (hS : va_S A s.heap H locs) (hl : lv_has ls 4 [(0, .ref b), (1, .ref x0), (2, .ref y0), (3, .int ix)]) (hNext : ∀ (H : Heap) (locs : List Loc) (ls : Array Slot), StW D cI cZ cM A x0 y0 H → va_S A s.heap H locs → lv_has ls 4 [(0, .ref b), (1, .ref x0), (2, .ref y0), (3, .int ix)] → W p l e R s m args below meth c H locs (c0 + 4) (s0 + 27) Q (F0 m 969 ls [])) : W p l e R s m args below meth c H locs c0 s0 Q (F0 m 558 ls []) := by
  obtain ⟨hx, hb, hr, hml, hown, hts, hX, hbl, hlocks, hA, hAf⟩ := hB
  have hbA : ¬ A b := fun q => absurd (hAf b q) (Nat.not_le.mpr hbl)
  refine stw_elim hSt ?_
  intro tx le td dr nw ac fa an kp ks sp ss sy sc sd tr ia Ftx lpe ltk lho lli lki lfd lfr lto lse lhl lFho lFli lFki lFfd lFfr lFto lFse lFhl dpe dtk dho dli dki dfd dfr dto dse dhl dFho dFli dFki dFfd dFfr dFto dFse dFhl md mt mr mg mat mfd mhd mFat mFfd mFhd Fac Fkp Fsp Fss Fsy mo rd zd zt zr zg zat zfd zhd zFat zFfd zFhd Frd Fia ype ytk ywi yki yse yno yrh yrw yrk yrt yrp yrq ytx yle yat yfa yby ylo yhi yac ynx yro ygl ysn yso ysp ysw ysd yik ykp Ywi Yki Yse Yno Yrh Yrw Yrk Yrt Ytx Yby Ylo Yhi Yro Ygl Yso Ysp Ysw Yik Ykp L hI hP hD
  obtain ⟨⟨hle0, hle1⟩, ⟨hfa0, hfa1⟩, ⟨han0, han1⟩, ⟨hsc0, hsc1⟩, ⟨hlpe0, hlpe1⟩, ⟨hltk0, hltk1⟩, ⟨hmd0, hmd1⟩, ⟨hmt0, hmt1⟩, ⟨hype0, hype1⟩, ⟨hytk0, hytk1⟩, ⟨hyle0, hyle1⟩, ⟨hyac0, hyac1⟩, ⟨hynx0, hynx1⟩, ⟨hysn0, hysn1⟩, hPoA, hPoK, hMsO, hByO, hle, hsd, hTX, hTxO, hlpt, hsct⟩ := hI
  have hlet : le.toInt = yle.toInt := by rw [hle]
  have hTxY : TxOk Ytx := hTX ▸ hTxO
  have hFL : flt Ytx yle.toInt = flt Ftx le.toInt := by rw [hTX, hle]
  have hFL_1 : (flt Ytx yle.toInt).1 = (flt Ftx le.toInt).1 := by rw [hFL]
  have hFL_2_1 : (flt Ytx yle.toInt).2.1 = (flt Ftx le.toInt).2.1 := by rw [hFL]
  have hFL_2_2 : (flt Ytx yle.toInt).2.2 = (flt Ftx le.toInt).2.2 := by rw [hFL]
  have hsdt : sd.toInt = ysd.toInt := by rw [hsd]
  obtain ⟨a1, ha1⟩ : ∃ z : Int32, xs (ix + 1 : Int32).toNatClampNeg = z := ⟨_, rfl⟩
  obtain ⟨a2, ha2⟩ : ∃ z : Int32, xs (ix + 2 : Int32).toNatClampNeg = z := ⟨_, rfl⟩
  obtain ⟨a3, ha3⟩ : ∃ z : Int32, xs (ix + 3 : Int32).toNatClampNeg = z := ⟨_, rfl⟩
  obtain ⟨a4, ha4⟩ : ∃ z : Int32, xs (ix + 4 : Int32).toNatClampNeg = z := ⟨_, rfl⟩
  refine lv_aload_n hx hb dL_law_558 rfl (lv_at hl 1 rfl) ?_
  refine lv_aload_n hx hb dL_law_559 rfl (lv_at hl 0 rfl) ?_
  refine lv_iload_n hx hb dL_law_560 rfl (lv_at hl 3 rfl) ?_
  refine lv_iconst (v := 1) hx hb dL_law_561 (by decide) ?_
  refine lv_iadd hx hb dL_law_562 ?_
  refine lv_topi (fun v_1 ev_1 => ?_)
  have tv_1 : v_1.toInt = ix.toInt + (1 : Int) := by rw [ev_1]; exact ti_add (x := ix) (y := 1) (show -2147483648 ≤ ix.toInt + (1 : Int) by omega) (show ix.toInt + (1 : Int) < 2147483648 by omega)
  refine va_sld hx hb hX hbl hbA hS (vp_in_iff.mpr ⟨by omega, by omega⟩) dL_law_563 ?_
  refine lv_topc (y := a1) (by rw [ev_1]; exact ha1) ?_
  refine fV_i (As := [.int a1]) (rest := []) ⟨hx, hb, hml, hown, hts⟩ (c_X3_falls l D cI cZ cM x0 a1 tx le td dr nw ac fa an kp ks sp ss sy sc sd tr ia lpe ltk lho lli lki lfd lfr lto lse lhl lFto lFfr lFki md mt mr mg mat mfd mhd mFat mFfd mFhd mo rd zd zt zr zg zat zfd zhd zFat zFfd zFhd Frd _ (show 0 ≤ md.toInt ∧ md.toInt ≤ 10 by omega) (show 0 ≤ mt.toInt ∧ mt.toInt ≤ 6 by omega) (show 0 ≤ lpe.toInt ∧ lpe.toInt ≤ 5 by omega)) (cwV 1 hts gL_law_X3_falls rfl rfl rfl (by decide +kernel) ⟨by rw [hR]; decide, by rw [hR]; decide⟩) hK hP hD hS hA [0, 2, 8, 7, 5, 20, 21, 22, 23, 29, 30, 31, 32, 33, 34] [1, 3, 4, 6, 9, 10, 11, 12, 13, 14, 15, 16, 17, 18, 19, 24, 25, 26, 27, 28, 35, 36, 37, 38, 39, 40, 41, 42, 43, 44, 45, 46, 47, 48, 49, 50, 51, 52, 53, 54, 55] rfl rfl (by decide +kernel) (by decide +kernel) (by decide +kernel) rfl 0 rfl hl.1 rfl rfl (Nat.le_of_ble_eq_true rfl) dL_law_564 ⟨by rw [hR]; exact (show _ ≤ 600000 by omega), by rw [hR]; exact (show _ ≤ 7302250 by omega)⟩ (fun r_10 u_11 H locs hw hP hD hS => ?_)
  obtain ⟨zd1_2, zt1_3, zr1_4, zg1_5, Gzat_6, Gzfd_7, Gzhd_8, Grd_9⟩ := u_11
  obtain ⟨hP, hD⟩ := PD_subF (X' := WXY cI cZ cM x0 y0 tx le td dr nw ac fa an kp ks sp ss sy sc sd tr ia Ftx lpe ltk lho lli lki lfd lfr lto lse lhl lFho lFli lFki lFfd lFfr lFto lFse lFhl dpe dtk dho dli dki dfd dfr dto dse dhl dFho dFli dFki dFfd dFfr dFto dFse dFhl md mt mr mg mat mfd mhd mFat mFfd mFhd Fac Fkp Fsp Fss Fsy mo rd zd1_2 zt1_3 zr1_4 zg1_5 zat zfd zhd Gzat_6 Gzfd_7 Gzhd_8 Grd_9 Fia ype ytk ywi yki yse yno yrh yrw yrk yrt yrp yrq ytx yle yat yfa yby ylo yhi yac ynx yro ygl ysn yso ysp ysw ysd yik ykp Ywi Yki Yse Yno Yrh Yrw Yrk Yrt Ytx Yby Ylo Yhi Yro Ygl Yso Ysp Ysw Yik Ykp) hP hD [41, 0, 42, 1, 2, 45, 3, 44, 43, 4, 5, 6, 7, 8, 9, 10, 11, 12, 13, 14, 46, 47, 48, 49, 15, 16, 17, 18, 19, 50, 51, 52, 53, 54, 55, 20, 21, 22, 23, 24, 25, 26, 27, 28, 29, 30, 31, 32, 33, 34, 35, 36, 37, 38, 39, 40] (by decide +kernel) rfl
  delta WXY at hP hD
  refine W.widen (k := c0) (n := s0) (Nat.le_refl _) (Nat.le_refl _) ?_
  refine lv_pop hx hb dL_law_567 rfl ?_
  refine lv_aload_n hx hb dL_law_568 rfl (lv_at hl 2 rfl) ?_
  refine lv_aload_n hx hb dL_law_569 rfl (lv_at hl 0 rfl) ?_
  refine lv_iload_n hx hb dL_law_570 rfl (lv_at hl 3 rfl) ?_
  refine lv_iconst (v := 1) hx hb dL_law_571 (by decide) ?_
  refine lv_iadd hx hb dL_law_572 ?_
  refine lv_topi (fun v_12 ev_12 => ?_)
  have tv_12 : v_12.toInt = ix.toInt + (1 : Int) := by rw [ev_12]; exact ti_add (x := ix) (y := 1) (show -2147483648 ≤ ix.toInt + (1 : Int) by omega) (show ix.toInt + (1 : Int) < 2147483648 by omega)
  refine va_sld hx hb hX hbl hbA hS (vp_in_iff.mpr ⟨by omega, by omega⟩) dL_law_573 ?_
  refine lv_topc (y := a1) (by rw [ev_12]; exact ha1) ?_
  refine fV_i (As := [.int a1]) (rest := []) ⟨hx, hb, hml, hown, hts⟩ (c_X4_falls l D cI cZ cM y0 a1 ype ytk ywi yki yse yno yrh yrw yrk yrt yrp yrq ytx yle yat yfa yby ylo yhi yac ynx yro ygl ysn yso ysp ysw ysd yik ykp Yno Yki Yby Ylo Yhi _ hByO (show 0 ≤ ype.toInt ∧ ype.toInt ≤ 5 by omega) (show 0 ≤ ytk.toInt ∧ ytk.toInt ≤ 6 by omega)) (cwV 1 hts gL_law_X4_falls rfl rfl rfl (by decide +kernel) ⟨by rw [hR]; decide, by rw [hR]; decide⟩) hK hP hD hS hA [36, 40, 38, 46, 47, 48] [0, 1, 2, 3, 4, 5, 6, 7, 8, 9, 10, 11, 12, 13, 14, 15, 16, 17, 18, 19, 20, 21, 22, 23, 24, 25, 26, 27, 28, 29, 30, 31, 32, 33, 34, 35, 37, 39, 41, 42, 43, 44, 45, 49, 50, 51, 52, 53, 54, 55] rfl rfl (by decide) (by decide +kernel) (by decide +kernel) rfl 36 rfl hl.1 rfl rfl (Nat.le_of_ble_eq_true rfl) dL_law_574 ⟨by rw [hR]; exact (show _ ≤ 600000 by omega), by rw [hR]; exact (show _ ≤ 7302250 by omega)⟩ (fun r_17 u_18 H locs hw hP hD hS => ?_)
  obtain ⟨Gno_13, Gby_14, Glo_15, Ghi_16⟩ := u_18
  obtain ⟨hP, hD⟩ := PD_subF (X' := WXY cI cZ cM x0 y0 tx le td dr nw ac fa an kp ks sp ss sy sc sd tr ia Ftx lpe ltk lho lli lki lfd lfr lto lse lhl lFho lFli lFki lFfd lFfr lFto lFse lFhl dpe dtk dho dli dki dfd dfr dto dse dhl dFho dFli dFki dFfd dFfr dFto dFse dFhl md mt mr mg mat mfd mhd mFat mFfd mFhd Fac Fkp Fsp Fss Fsy mo rd zd1_2 zt1_3 zr1_4 zg1_5 zat zfd zhd Gzat_6 Gzfd_7 Gzhd_8 Grd_9 Fia ype ytk ywi yki yse yno yrh yrw yrk yrt yrp yrq ytx yle yat yfa yby ylo yhi yac ynx yro ygl ysn yso ysp ysw ysd yik ykp Ywi Yki Yse Gno_13 Yrh Yrw Yrk Yrt Ytx Gby_14 Glo_15 Ghi_16 Yro Ygl Yso Ysp Ysw Yik Ykp) hP hD [0, 1, 2, 3, 4, 5, 6, 7, 8, 9, 10, 11, 12, 13, 14, 15, 16, 17, 18, 19, 20, 21, 22, 23, 24, 25, 26, 27, 28, 29, 30, 31, 32, 33, 34, 35, 50, 36, 52, 37, 51, 38, 39, 40, 41, 42, 53, 54, 55, 43, 44, 45, 46, 47, 48, 49] (by decide +kernel) rfl
  delta WXY at hP hD
  refine W.widen (k := c0) (n := s0) (Nat.le_refl _) (Nat.le_refl _) ?_
  have hw : ByOk Gby_14 := hw
  have hw_19 := hw
  refine lv_pop hx hb dL_law_577 rfl ?_
  refine lv_goto (tgt := 969) hx hb dL_law_578 (by decide) ?_
  refine W.widen (k := c0 + 4) (n := s0 + 27) (by omega) (by omega) ?_
  exact hNext _ _ _ (stw_intro hP hD ⟨⟨hle0, hle1⟩, ⟨hfa0, hfa1⟩, ⟨han0, han1⟩, ⟨hsc0, hsc1⟩, ⟨hlpe0, hlpe1⟩, ⟨hltk0, hltk1⟩, ⟨hmd0, hmd1⟩, ⟨hmt0, hmt1⟩, ⟨hype0, hype1⟩, ⟨hytk0, hytk1⟩, ⟨hyle0, hyle1⟩, ⟨hyac0, hyac1⟩, ⟨hynx0, hynx1⟩, ⟨hysn0, hysn1⟩, hPoA, hPoK, hMsO, hw_19, hle, hsd, hTX, hTxO, hlpt, hsct⟩) hS (lv_sub hl [0, 1, 2, 3] rfl)

set_option maxHeartbeats 1000000 in
set_option maxRecDepth 100000 in
theorem law_c17 {p : Program} {l : Launch} {e : Env} {s : State} {m : MethodId} {below : List Frame} {meth : Method} {c : Code} {b LN : Nat} {xs : Nat → Int32} {A : Nat → Prop} {args : Array Value} {R : Room} {Q : State → Prop} (hB : Lb p s m args meth c b xs A LN) (hR : R = room_1) (D : va_G) (cI cZ cM : ClassId) (hK : va_K D vwCl (ty3 cI cZ cM) s) {x0 y0 : Nat} {H : Heap} {locs : List Loc} {ls : Array Slot} {c0 s0 : Nat} (hc : c0 + 4 ≤ 600000) (hs : s0 + 27 ≤ 7302250) {ix : Int32} (hixa : 0 ≤ ix.toInt) (hixb : ix.toInt + 5 ≤ (LN : Int)) (hLN : LN ≤ 320) (hSt : StW D cI cZ cM A x0 y0 H) (hS : va_S A s.heap H locs) (hl : lv_has ls 4 [(0, .ref b), (1, .ref x0), (2, .ref y0), (3, .int ix)]) (hNext : ∀ (H : Heap) (locs : List Loc) (ls : Array Slot), StW D cI cZ cM A x0 y0 H → va_S A s.heap H locs → lv_has ls 4 [(0, .ref b), (1, .ref x0), (2, .ref y0), (3, .int ix)] → W p l e R s m args below meth c H locs (c0 + 4) (s0 + 27) Q (F0 m 969 ls [])) : W p l e R s m args below meth c H locs c0 s0 Q (F0 m 581 ls []) := by
  obtain ⟨hx, hb, hr, hml, hown, hts, hX, hbl, hlocks, hA, hAf⟩ := hB
  have hbA : ¬ A b := fun q => absurd (hAf b q) (Nat.not_le.mpr hbl)
  refine stw_elim hSt ?_
  intro tx le td dr nw ac fa an kp ks sp ss sy sc sd tr ia Ftx lpe ltk lho lli lki lfd lfr lto lse lhl lFho lFli lFki lFfd lFfr lFto lFse lFhl dpe dtk dho dli dki dfd dfr dto dse dhl dFho dFli dFki dFfd dFfr dFto dFse dFhl md mt mr mg mat mfd mhd mFat mFfd mFhd Fac Fkp Fsp Fss Fsy mo rd zd zt zr zg zat zfd zhd zFat zFfd zFhd Frd Fia ype ytk ywi yki yse yno yrh yrw yrk yrt yrp yrq ytx yle yat yfa yby ylo yhi yac ynx yro ygl ysn yso ysp ysw ysd yik ykp Ywi Yki Yse Yno Yrh Yrw Yrk Yrt Ytx Yby Ylo Yhi Yro Ygl Yso Ysp Ysw Yik Ykp L hI hP hD
  obtain ⟨⟨hle0, hle1⟩, ⟨hfa0, hfa1⟩, ⟨han0, han1⟩, ⟨hsc0, hsc1⟩, ⟨hlpe0, hlpe1⟩, ⟨hltk0, hltk1⟩, ⟨hmd0, hmd1⟩, ⟨hmt0, hmt1⟩, ⟨hype0, hype1⟩, ⟨hytk0, hytk1⟩, ⟨hyle0, hyle1⟩, ⟨hyac0, hyac1⟩, ⟨hynx0, hynx1⟩, ⟨hysn0, hysn1⟩, hPoA, hPoK, hMsO, hByO, hle, hsd, hTX, hTxO, hlpt, hsct⟩ := hI
  have hlet : le.toInt = yle.toInt := by rw [hle]
  have hTxY : TxOk Ytx := hTX ▸ hTxO
  have hFL : flt Ytx yle.toInt = flt Ftx le.toInt := by rw [hTX, hle]
  have hFL_1 : (flt Ytx yle.toInt).1 = (flt Ftx le.toInt).1 := by rw [hFL]
  have hFL_2_1 : (flt Ytx yle.toInt).2.1 = (flt Ftx le.toInt).2.1 := by rw [hFL]
  have hFL_2_2 : (flt Ytx yle.toInt).2.2 = (flt Ftx le.toInt).2.2 := by rw [hFL]
  have hsdt : sd.toInt = ysd.toInt := by rw [hsd]
  obtain ⟨a1, ha1⟩ : ∃ z : Int32, xs (ix + 1 : Int32).toNatClampNeg = z := ⟨_, rfl⟩
  obtain ⟨a2, ha2⟩ : ∃ z : Int32, xs (ix + 2 : Int32).toNatClampNeg = z := ⟨_, rfl⟩
  obtain ⟨a3, ha3⟩ : ∃ z : Int32, xs (ix + 3 : Int32).toNatClampNeg = z := ⟨_, rfl⟩
  obtain ⟨a4, ha4⟩ : ∃ z : Int32, xs (ix + 4 : Int32).toNatClampNeg = z := ⟨_, rfl⟩
  refine lv_aload_n hx hb dL_law_581 rfl (lv_at hl 1 rfl) ?_
  refine fV_i (As := []) (rest := []) ⟨hx, hb, hml, hown, hts⟩ (c_X3_bestChange l D cI cZ cM x0 tx le td dr nw ac fa an kp ks sp ss sy sc sd tr ia lpe ltk lho lli lki lfd lfr lto lse lhl lFto lFfr lFki lFli md mt mr mg mat mfd mhd mFat mFfd mFhd mo rd zd zt zr zg zat zfd zhd zFat zFfd zFhd Frd _ (show 0 ≤ md.toInt ∧ md.toInt ≤ 10 by omega) (show 0 ≤ mt.toInt ∧ mt.toInt ≤ 6 by omega) (show 0 ≤ lpe.toInt ∧ lpe.toInt ≤ 5 by omega) (show 0 ≤ ltk.toInt ∧ ltk.toInt ≤ 6 by omega)) (cwV 0 hts gL_law_X3_bestChange rfl rfl rfl (by decide +kernel) ⟨by rw [hR]; decide, by rw [hR]; decide⟩) hK hP hD hS hA [0, 2, 8, 7, 5, 4, 20, 21, 22, 23, 29, 30, 31, 32, 33, 34] [1, 3, 6, 9, 10, 11, 12, 13, 14, 15, 16, 17, 18, 19, 24, 25, 26, 27, 28, 35, 36, 37, 38, 39, 40, 41, 42, 43, 44, 45, 46, 47, 48, 49, 50, 51, 52, 53, 54, 55] rfl rfl (by decide +kernel) (by decide +kernel) (by decide +kernel) rfl 0 rfl hl.1 rfl rfl (Nat.le_of_ble_eq_true rfl) dL_law_582 ⟨by rw [hR]; exact (show _ ≤ 600000 by omega), by rw [hR]; exact (show _ ≤ 7302250 by omega)⟩ (fun r_9 u_10 H locs hw hP hD hS => ?_)
  obtain ⟨zd1_1, zt1_2, zr1_3, zg1_4, Gzat_5, Gzfd_6, Gzhd_7, Grd_8⟩ := u_10
  obtain ⟨hP, hD⟩ := PD_subF (X' := WXY cI cZ cM x0 y0 tx le td dr nw ac fa an kp ks sp ss sy sc sd tr ia Ftx lpe ltk lho lli lki lfd lfr lto lse lhl lFho lFli lFki lFfd lFfr lFto lFse lFhl dpe dtk dho dli dki dfd dfr dto dse dhl dFho dFli dFki dFfd dFfr dFto dFse dFhl md mt mr mg mat mfd mhd mFat mFfd mFhd Fac Fkp Fsp Fss Fsy mo rd zd1_1 zt1_2 zr1_3 zg1_4 zat zfd zhd Gzat_5 Gzfd_6 Gzhd_7 Grd_8 Fia ype ytk ywi yki yse yno yrh yrw yrk yrt yrp yrq ytx yle yat yfa yby ylo yhi yac ynx yro ygl ysn yso ysp ysw ysd yik ykp Ywi Yki Yse Yno Yrh Yrw Yrk Yrt Ytx Yby Ylo Yhi Yro Ygl Yso Ysp Ysw Yik Ykp) hP hD [40, 0, 41, 1, 45, 44, 2, 43, 42, 3, 4, 5, 6, 7, 8, 9, 10, 11, 12, 13, 46, 47, 48, 49, 14, 15, 16, 17, 18, 50, 51, 52, 53, 54, 55, 19, 20, 21, 22, 23, 24, 25, 26, 27, 28, 29, 30, 31, 32, 33, 34, 35, 36, 37, 38, 39] (by decide +kernel) rfl
  delta WXY at hP hD
  refine W.widen (k := c0) (n := s0) (Nat.le_refl _) (Nat.le_refl _) ?_
  refine lv_pop hx hb dL_law_585 rfl ?_
  refine lv_aload_n hx hb dL_law_586 rfl (lv_at hl 2 rfl) ?_
  refine fV_i (As := []) (rest := []) ⟨hx, hb, hml, hown, hts⟩ (c_X4_bestChange l D cI cZ cM y0 ype ytk ywi yki yse yno yrh yrw yrk yrt yrp yrq ytx yle yat yfa yby ylo yhi yac ynx yro ygl ysn yso ysp ysw ysd yik ykp Yno Yki Yby Ylo Yhi Ywi _ hByO (show 0 ≤ ype.toInt ∧ ype.toInt ≤ 5 by omega) (show 0 ≤ ytk.toInt ∧ ytk.toInt ≤ 6 by omega)) (cwV 0 hts gL_law_X4_bestChange rfl rfl rfl (by decide +kernel) ⟨by rw [hR]; decide, by rw [hR]; decide⟩) hK hP hD hS hA [36, 40, 38, 46, 47, 48, 37] [0, 1, 2, 3, 4, 5, 6, 7, 8, 9, 10, 11, 12, 13, 14, 15, 16, 17, 18, 19, 20, 21, 22, 23, 24, 25, 26, 27, 28, 29, 30, 31, 32, 33, 34, 35, 39, 41, 42, 43, 44, 45, 49, 50, 51, 52, 53, 54, 55] rfl rfl (by decide) (by decide +kernel) (by decide +kernel) rfl 36 rfl hl.1 rfl rfl (Nat.le_of_ble_eq_true rfl) dL_law_587 ⟨by rw [hR]; exact (show _ ≤ 600000 by omega), by rw [hR]; exact (show _ ≤ 7302250 by omega)⟩ (fun r_15 u_16 H locs hw hP hD hS => ?_)
  obtain ⟨Gno_11, Gby_12, Glo_13, Ghi_14⟩ := u_16
  obtain ⟨hP, hD⟩ := PD_subF (X' := WXY cI cZ cM x0 y0 tx le td dr nw ac fa an kp ks sp ss sy sc sd tr ia Ftx lpe ltk lho lli lki lfd lfr lto lse lhl lFho lFli lFki lFfd lFfr lFto lFse lFhl dpe dtk dho dli dki dfd dfr dto dse dhl dFho dFli dFki dFfd dFfr dFto dFse dFhl md mt mr mg mat mfd mhd mFat mFfd mFhd Fac Fkp Fsp Fss Fsy mo rd zd1_1 zt1_2 zr1_3 zg1_4 zat zfd zhd Gzat_5 Gzfd_6 Gzhd_7 Grd_8 Fia ype ytk ywi yki yse yno yrh yrw yrk yrt yrp yrq ytx yle yat yfa yby ylo yhi yac ynx yro ygl ysn yso ysp ysw ysd yik ykp Ywi Yki Yse Gno_11 Yrh Yrw Yrk Yrt Ytx Gby_12 Glo_13 Ghi_14 Yro Ygl Yso Ysp Ysw Yik Ykp) hP hD [0, 1, 2, 3, 4, 5, 6, 7, 8, 9, 10, 11, 12, 13, 14, 15, 16, 17, 18, 19, 20, 21, 22, 23, 24, 25, 26, 27, 28, 29, 30, 31, 32, 33, 34, 35, 49, 55, 51, 36, 50, 37, 38, 39, 40, 41, 52, 53, 54, 42, 43, 44, 45, 46, 47, 48] (by decide +kernel) rfl
  delta WXY at hP hD
  refine W.widen (k := c0) (n := s0) (Nat.le_refl _) (Nat.le_refl _) ?_
  have hw : ByOk Gby_12 := hw
  have hw_17 := hw
  refine lv_pop hx hb dL_law_590 rfl ?_
  refine lv_goto (tgt := 969) hx hb dL_law_591 (by decide) ?_
  refine W.widen (k := c0 + 4) (n := s0 + 27) (by omega) (by omega) ?_
  exact hNext _ _ _ (stw_intro hP hD ⟨⟨hle0, hle1⟩, ⟨hfa0, hfa1⟩, ⟨han0, han1⟩, ⟨hsc0, hsc1⟩, ⟨hlpe0, hlpe1⟩, ⟨hltk0, hltk1⟩, ⟨hmd0, hmd1⟩, ⟨hmt0, hmt1⟩, ⟨hype0, hype1⟩, ⟨hytk0, hytk1⟩, ⟨hyle0, hyle1⟩, ⟨hyac0, hyac1⟩, ⟨hynx0, hynx1⟩, ⟨hysn0, hysn1⟩, hPoA, hPoK, hMsO, hw_17, hle, hsd, hTX, hTxO, hlpt, hsct⟩) hS (lv_sub hl [0, 1, 2, 3] rfl)

set_option maxHeartbeats 1000000 in
set_option maxRecDepth 100000 in
theorem law_c18 {p : Program} {l : Launch} {e : Env} {s : State} {m : MethodId} {below : List Frame} {meth : Method} {c : Code} {b LN : Nat} {xs : Nat → Int32} {A : Nat → Prop} {args : Array Value} {R : Room} {Q : State → Prop} (hB : Lb p s m args meth c b xs A LN) (hR : R = room_1) (D : va_G) (cI cZ cM : ClassId) (hK : va_K D vwCl (ty3 cI cZ cM) s) {x0 y0 : Nat} {H : Heap} {locs : List Loc} {ls : Array Slot} {c0 s0 : Nat} (hc : c0 + 4 ≤ 600000) (hs : s0 + 27 ≤ 7302250) {ix : Int32} (hixa : 0 ≤ ix.toInt) (hixb : ix.toInt + 5 ≤ (LN : Int)) (hLN : LN ≤ 320) (hSt : StW D cI cZ cM A x0 y0 H) (hS : va_S A s.heap H locs) (hl : lv_has ls 4 [(0, .ref b), (1, .ref x0), (2, .ref y0), (3, .int ix)]) (hNext : ∀ (H : Heap) (locs : List Loc) (ls : Array Slot), StW D cI cZ cM A x0 y0 H → va_S A s.heap H locs → lv_has ls 4 [(0, .ref b), (1, .ref x0), (2, .ref y0), (3, .int ix)] → W p l e R s m args below meth c H locs (c0 + 4) (s0 + 27) Q (F0 m 969 ls [])) : W p l e R s m args below meth c H locs c0 s0 Q (F0 m 594 ls []) := by
  obtain ⟨hx, hb, hr, hml, hown, hts, hX, hbl, hlocks, hA, hAf⟩ := hB
  have hbA : ¬ A b := fun q => absurd (hAf b q) (Nat.not_le.mpr hbl)
  refine stw_elim hSt ?_
  intro tx le td dr nw ac fa an kp ks sp ss sy sc sd tr ia Ftx lpe ltk lho lli lki lfd lfr lto lse lhl lFho lFli lFki lFfd lFfr lFto lFse lFhl dpe dtk dho dli dki dfd dfr dto dse dhl dFho dFli dFki dFfd dFfr dFto dFse dFhl md mt mr mg mat mfd mhd mFat mFfd mFhd Fac Fkp Fsp Fss Fsy mo rd zd zt zr zg zat zfd zhd zFat zFfd zFhd Frd Fia ype ytk ywi yki yse yno yrh yrw yrk yrt yrp yrq ytx yle yat yfa yby ylo yhi yac ynx yro ygl ysn yso ysp ysw ysd yik ykp Ywi Yki Yse Yno Yrh Yrw Yrk Yrt Ytx Yby Ylo Yhi Yro Ygl Yso Ysp Ysw Yik Ykp L hI hP hD
  obtain ⟨⟨hle0, hle1⟩, ⟨hfa0, hfa1⟩, ⟨han0, han1⟩, ⟨hsc0, hsc1⟩, ⟨hlpe0, hlpe1⟩, ⟨hltk0, hltk1⟩, ⟨hmd0, hmd1⟩, ⟨hmt0, hmt1⟩, ⟨hype0, hype1⟩, ⟨hytk0, hytk1⟩, ⟨hyle0, hyle1⟩, ⟨hyac0, hyac1⟩, ⟨hynx0, hynx1⟩, ⟨hysn0, hysn1⟩, hPoA, hPoK, hMsO, hByO, hle, hsd, hTX, hTxO, hlpt, hsct⟩ := hI
  have hlet : le.toInt = yle.toInt := by rw [hle]
  have hTxY : TxOk Ytx := hTX ▸ hTxO
  have hFL : flt Ytx yle.toInt = flt Ftx le.toInt := by rw [hTX, hle]
  have hFL_1 : (flt Ytx yle.toInt).1 = (flt Ftx le.toInt).1 := by rw [hFL]
  have hFL_2_1 : (flt Ytx yle.toInt).2.1 = (flt Ftx le.toInt).2.1 := by rw [hFL]
  have hFL_2_2 : (flt Ytx yle.toInt).2.2 = (flt Ftx le.toInt).2.2 := by rw [hFL]
  have hsdt : sd.toInt = ysd.toInt := by rw [hsd]
  obtain ⟨a1, ha1⟩ : ∃ z : Int32, xs (ix + 1 : Int32).toNatClampNeg = z := ⟨_, rfl⟩
  obtain ⟨a2, ha2⟩ : ∃ z : Int32, xs (ix + 2 : Int32).toNatClampNeg = z := ⟨_, rfl⟩
  obtain ⟨a3, ha3⟩ : ∃ z : Int32, xs (ix + 3 : Int32).toNatClampNeg = z := ⟨_, rfl⟩
  obtain ⟨a4, ha4⟩ : ∃ z : Int32, xs (ix + 4 : Int32).toNatClampNeg = z := ⟨_, rfl⟩
  refine lv_aload_n hx hb dL_law_594 rfl (lv_at hl 1 rfl) ?_
  refine lv_aload_n hx hb dL_law_595 rfl (lv_at hl 0 rfl) ?_
  refine lv_iload_n hx hb dL_law_596 rfl (lv_at hl 3 rfl) ?_
  refine lv_iconst (v := 1) hx hb dL_law_597 (by decide) ?_
  refine lv_iadd hx hb dL_law_598 ?_
  refine lv_topi (fun v_1 ev_1 => ?_)
  have tv_1 : v_1.toInt = ix.toInt + (1 : Int) := by rw [ev_1]; exact ti_add (x := ix) (y := 1) (show -2147483648 ≤ ix.toInt + (1 : Int) by omega) (show ix.toInt + (1 : Int) < 2147483648 by omega)
  refine va_sld hx hb hX hbl hbA hS (vp_in_iff.mpr ⟨by omega, by omega⟩) dL_law_599 ?_
  refine lv_topc (y := a1) (by rw [ev_1]; exact ha1) ?_
  refine lv_aload_n hx hb dL_law_600 rfl (lv_at hl 0 rfl) ?_
  refine lv_iload_n hx hb dL_law_601 rfl (lv_at hl 3 rfl) ?_
  refine lv_iconst (v := 2) hx hb dL_law_602 (by decide) ?_
  refine lv_iadd hx hb dL_law_603 ?_
  refine lv_topi (fun v_2 ev_2 => ?_)
  have tv_2 : v_2.toInt = ix.toInt + (2 : Int) := by rw [ev_2]; exact ti_add (x := ix) (y := 2) (show -2147483648 ≤ ix.toInt + (2 : Int) by omega) (show ix.toInt + (2 : Int) < 2147483648 by omega)
  refine va_sld hx hb hX hbl hbA hS (vp_in_iff.mpr ⟨by omega, by omega⟩) dL_law_604 ?_
  refine lv_topc (y := a2) (by rw [ev_2]; exact ha2) ?_
  refine lv_if_eq (tgt := 612) hx hb dL_law_605 (by decide) (fun c_3 => ?_) (fun c_3 => ?_)
  · have tc_3 := b_eq rfl (show (0 : Int32).toInt = 0 by decide) c_3
    refine lv_iconst (v := 0) hx hb dL_law_612 (by decide) ?_
    refine fV_i (As := [.int a1, .int 0]) (rest := []) ⟨hx, hb, hml, hown, hts⟩ (c_X3_share l D cI cZ cM x0 a1 0 tx le td dr nw ac fa an kp ks sp ss sy sc sd tr ia lpe ltk lho lli lki lfd lfr lto lse lhl lFto lFfr lFki lFli md mt mr mg mat mfd mhd mFat mFfd mFhd mo rd zd zt zr zg zat zfd zhd zFat zFfd zFhd Frd _ (show 0 ≤ md.toInt ∧ md.toInt ≤ 10 by omega) (show 0 ≤ mt.toInt ∧ mt.toInt ≤ 6 by omega) (show 0 ≤ lpe.toInt ∧ lpe.toInt ≤ 5 by omega)) (cwV 2 hts gL_law_X3_share rfl rfl rfl (by decide +kernel) ⟨by rw [hR]; decide, by rw [hR]; decide⟩) hK hP hD hS hA [0, 2, 8, 7, 5, 4, 20, 21, 22, 23, 29, 30, 31, 32, 33, 34] [1, 3, 6, 9, 10, 11, 12, 13, 14, 15, 16, 17, 18, 19, 24, 25, 26, 27, 28, 35, 36, 37, 38, 39, 40, 41, 42, 43, 44, 45, 46, 47, 48, 49, 50, 51, 52, 53, 54, 55] rfl rfl (by decide +kernel) (by decide +kernel) (by decide +kernel) rfl 0 rfl hl.1 rfl rfl (Nat.le_of_ble_eq_true rfl) dL_law_613 ⟨by rw [hR]; exact (show _ ≤ 600000 by omega), by rw [hR]; exact (show _ ≤ 7302250 by omega)⟩ (fun r_12 u_13 H locs hw hP hD hS => ?_)
    obtain ⟨zd1_4, zt1_5, zr1_6, zg1_7, Gzat_8, Gzfd_9, Gzhd_10, Grd_11⟩ := u_13
    obtain ⟨hP, hD⟩ := PD_subF (X' := WXY cI cZ cM x0 y0 tx le td dr nw ac fa an kp ks sp ss sy sc sd tr ia Ftx lpe ltk lho lli lki lfd lfr lto lse lhl lFho lFli lFki lFfd lFfr lFto lFse lFhl dpe dtk dho dli dki dfd dfr dto dse dhl dFho dFli dFki dFfd dFfr dFto dFse dFhl md mt mr mg mat mfd mhd mFat mFfd mFhd Fac Fkp Fsp Fss Fsy mo rd zd1_4 zt1_5 zr1_6 zg1_7 zat zfd zhd Gzat_8 Gzfd_9 Gzhd_10 Grd_11 Fia ype ytk ywi yki yse yno yrh yrw yrk yrt yrp yrq ytx yle yat yfa yby ylo yhi yac ynx yro ygl ysn yso ysp ysw ysd yik ykp Ywi Yki Yse Yno Yrh Yrw Yrk Yrt Ytx Yby Ylo Yhi Yro Ygl Yso Ysp Ysw Yik Ykp) hP hD [40, 0, 41, 1, 45, 44, 2, 43, 42, 3, 4, 5, 6, 7, 8, 9, 10, 11, 12, 13, 46, 47, 48, 49, 14, 15, 16, 17, 18, 50, 51, 52, 53, 54, 55, 19, 20, 21, 22, 23, 24, 25, 26, 27, 28, 29, 30, 31, 32, 33, 34, 35, 36, 37, 38, 39] (by decide +kernel) rfl
    delta WXY at hP hD
    refine W.widen (k := c0) (n := s0) (Nat.le_refl _) (Nat.le_refl _) ?_
    refine lv_pop hx hb dL_law_616 rfl ?_
    refine lv_aload_n hx hb dL_law_617 rfl (lv_at hl 2 rfl) ?_
    refine lv_aload_n hx hb dL_law_618 rfl (lv_at hl 0 rfl) ?_
    refine lv_iload_n hx hb dL_law_619 rfl (lv_at hl 3 rfl) ?_
    refine lv_iconst (v := 1) hx hb dL_law_620 (by decide) ?_
    refine lv_iadd hx hb dL_law_621 ?_
    refine lv_topi (fun v_14 ev_14 => ?_)
    have tv_14 : v_14.toInt = ix.toInt + (1 : Int) := by rw [ev_14]; exact ti_add (x := ix) (y := 1) (show -2147483648 ≤ ix.toInt + (1 : Int) by omega) (show ix.toInt + (1 : Int) < 2147483648 by omega)
    refine va_sld hx hb hX hbl hbA hS (vp_in_iff.mpr ⟨by omega, by omega⟩) dL_law_622 ?_
    refine lv_topc (y := a1) (by rw [ev_14]; exact ha1) ?_
    refine lv_aload_n hx hb dL_law_623 rfl (lv_at hl 0 rfl) ?_
    refine lv_iload_n hx hb dL_law_624 rfl (lv_at hl 3 rfl) ?_
    refine lv_iconst (v := 2) hx hb dL_law_625 (by decide) ?_
    refine lv_iadd hx hb dL_law_626 ?_
    refine lv_topi (fun v_15 ev_15 => ?_)
    have tv_15 : v_15.toInt = ix.toInt + (2 : Int) := by rw [ev_15]; exact ti_add (x := ix) (y := 2) (show -2147483648 ≤ ix.toInt + (2 : Int) by omega) (show ix.toInt + (2 : Int) < 2147483648 by omega)
    refine va_sld hx hb hX hbl hbA hS (vp_in_iff.mpr ⟨by omega, by omega⟩) dL_law_627 ?_
    refine lv_topc (y := a2) (by rw [ev_15]; exact ha2) ?_
    refine lv_if_eq (tgt := 635) hx hb dL_law_628 (by decide) (fun c_16 => ?_) (fun c_16 => ?_)
    · have tc_16 := b_eq rfl (show (0 : Int32).toInt = 0 by decide) c_16
      refine lv_iconst (v := 0) hx hb dL_law_635 (by decide) ?_
      refine fV_i (As := [.int a1, .int 0]) (rest := []) ⟨hx, hb, hml, hown, hts⟩ (c_X4_share l D cI cZ cM y0 a1 0 ype ytk ywi yki yse yno yrh yrw yrk yrt yrp yrq ytx yle yat yfa yby ylo yhi yac ynx yro ygl ysn yso ysp ysw ysd yik ykp Yno Yki Yby Ylo Yhi Ywi Ygl _ hByO (show 0 ≤ ype.toInt ∧ ype.toInt ≤ 5 by omega) (show 0 ≤ ytk.toInt ∧ ytk.toInt ≤ 6 by omega)) (cwV 2 hts gL_law_X4_share rfl rfl rfl (by decide +kernel) ⟨by rw [hR]; decide, by rw [hR]; decide⟩) hK hP hD hS hA [36, 40, 38, 46, 47, 48, 37, 50] [0, 1, 2, 3, 4, 5, 6, 7, 8, 9, 10, 11, 12, 13, 14, 15, 16, 17, 18, 19, 20, 21, 22, 23, 24, 25, 26, 27, 28, 29, 30, 31, 32, 33, 34, 35, 39, 41, 42, 43, 44, 45, 49, 51, 52, 53, 54, 55] rfl rfl (by decide) (by decide +kernel) (by decide +kernel) rfl 36 rfl hl.1 rfl rfl (Nat.le_of_ble_eq_true rfl) dL_law_636 ⟨by rw [hR]; exact (show _ ≤ 600000 by omega), by rw [hR]; exact (show _ ≤ 7302250 by omega)⟩ (fun r_22 u_23 H locs hw hP hD hS => ?_)
      obtain ⟨Gno_17, Gby_18, Glo_19, Ghi_20, Ggl_21⟩ := u_23
      obtain ⟨hP, hD⟩ := PD_subF (X' := WXY cI cZ cM x0 y0 tx le td dr nw ac fa an kp ks sp ss sy sc sd tr ia Ftx lpe ltk lho lli lki lfd lfr lto lse lhl lFho lFli lFki lFfd lFfr lFto lFse lFhl dpe dtk dho dli dki dfd dfr dto dse dhl dFho dFli dFki dFfd dFfr dFto dFse dFhl md mt mr mg mat mfd mhd mFat mFfd mFhd Fac Fkp Fsp Fss Fsy mo rd zd1_4 zt1_5 zr1_6 zg1_7 zat zfd zhd Gzat_8 Gzfd_9 Gzhd_10 Grd_11 Fia ype ytk ywi yki yse yno yrh yrw yrk yrt yrp yrq ytx yle yat yfa yby ylo yhi yac ynx yro ygl ysn yso ysp ysw ysd yik ykp Ywi Yki Yse Gno_17 Yrh Yrw Yrk Yrt Ytx Gby_18 Glo_19 Ghi_20 Yro Ggl_21 Yso Ysp Ysw Yik Ykp) hP hD [0, 1, 2, 3, 4, 5, 6, 7, 8, 9, 10, 11, 12, 13, 14, 15, 16, 17, 18, 19, 20, 21, 22, 23, 24, 25, 26, 27, 28, 29, 30, 31, 32, 33, 34, 35, 48, 54, 50, 36, 49, 37, 38, 39, 40, 41, 51, 52, 53, 42, 55, 43, 44, 45, 46, 47] (by decide +kernel) rfl
      delta WXY at hP hD
      refine W.widen (k := c0) (n := s0) (Nat.le_refl _) (Nat.le_refl _) ?_
      have hw : ByOk Gby_18 := hw
      have hw_24 := hw
      refine lv_pop hx hb dL_law_639 rfl ?_
      refine lv_goto (tgt := 969) hx hb dL_law_640 (by decide) ?_
      refine W.widen (k := c0 + 4) (n := s0 + 27) (by omega) (by omega) ?_
      exact hNext _ _ _ (stw_intro hP hD ⟨⟨hle0, hle1⟩, ⟨hfa0, hfa1⟩, ⟨han0, han1⟩, ⟨hsc0, hsc1⟩, ⟨hlpe0, hlpe1⟩, ⟨hltk0, hltk1⟩, ⟨hmd0, hmd1⟩, ⟨hmt0, hmt1⟩, ⟨hype0, hype1⟩, ⟨hytk0, hytk1⟩, ⟨hyle0, hyle1⟩, ⟨hyac0, hyac1⟩, ⟨hynx0, hynx1⟩, ⟨hysn0, hysn1⟩, hPoA, hPoK, hMsO, hw_24, hle, hsd, hTX, hTxO, hlpt, hsct⟩) hS (lv_sub hl [0, 1, 2, 3] rfl)
    · have tc_16 := b_ne rfl (show (0 : Int32).toInt = 0 by decide) c_16
      exfalso; omega
  · have tc_3 := b_ne rfl (show (0 : Int32).toInt = 0 by decide) c_3
    refine lv_iconst (v := 1) hx hb dL_law_608 (by decide) ?_
    refine lv_goto (tgt := 613) hx hb dL_law_609 (by decide) ?_
    refine fV_i (As := [.int a1, .int 1]) (rest := []) ⟨hx, hb, hml, hown, hts⟩ (c_X3_share l D cI cZ cM x0 a1 1 tx le td dr nw ac fa an kp ks sp ss sy sc sd tr ia lpe ltk lho lli lki lfd lfr lto lse lhl lFto lFfr lFki lFli md mt mr mg mat mfd mhd mFat mFfd mFhd mo rd zd zt zr zg zat zfd zhd zFat zFfd zFhd Frd _ (show 0 ≤ md.toInt ∧ md.toInt ≤ 10 by omega) (show 0 ≤ mt.toInt ∧ mt.toInt ≤ 6 by omega) (show 0 ≤ lpe.toInt ∧ lpe.toInt ≤ 5 by omega)) (cwV 2 hts gL_law_X3_share rfl rfl rfl (by decide +kernel) ⟨by rw [hR]; decide, by rw [hR]; decide⟩) hK hP hD hS hA [0, 2, 8, 7, 5, 4, 20, 21, 22, 23, 29, 30, 31, 32, 33, 34] [1, 3, 6, 9, 10, 11, 12, 13, 14, 15, 16, 17, 18, 19, 24, 25, 26, 27, 28, 35, 36, 37, 38, 39, 40, 41, 42, 43, 44, 45, 46, 47, 48, 49, 50, 51, 52, 53, 54, 55] rfl rfl (by decide +kernel) (by decide +kernel) (by decide +kernel) rfl 0 rfl hl.1 rfl rfl (Nat.le_of_ble_eq_true rfl) dL_law_613 ⟨by rw [hR]; exact (show _ ≤ 600000 by omega), by rw [hR]; exact (show _ ≤ 7302250 by omega)⟩ (fun r_33 u_34 H locs hw hP hD hS => ?_)
    obtain ⟨zd1_25, zt1_26, zr1_27, zg1_28, Gzat_29, Gzfd_30, Gzhd_31, Grd_32⟩ := u_34
    obtain ⟨hP, hD⟩ := PD_subF (X' := WXY cI cZ cM x0 y0 tx le td dr nw ac fa an kp ks sp ss sy sc sd tr ia Ftx lpe ltk lho lli lki lfd lfr lto lse lhl lFho lFli lFki lFfd lFfr lFto lFse lFhl dpe dtk dho dli dki dfd dfr dto dse dhl dFho dFli dFki dFfd dFfr dFto dFse dFhl md mt mr mg mat mfd mhd mFat mFfd mFhd Fac Fkp Fsp Fss Fsy mo rd zd1_25 zt1_26 zr1_27 zg1_28 zat zfd zhd Gzat_29 Gzfd_30 Gzhd_31 Grd_32 Fia ype ytk ywi yki yse yno yrh yrw yrk yrt yrp yrq ytx yle yat yfa yby ylo yhi yac ynx yro ygl ysn yso ysp ysw ysd yik ykp Ywi Yki Yse Yno Yrh Yrw Yrk Yrt Ytx Yby Ylo Yhi Yro Ygl Yso Ysp Ysw Yik Ykp) hP hD [40, 0, 41, 1, 45, 44, 2, 43, 42, 3, 4, 5, 6, 7, 8, 9, 10, 11, 12, 13, 46, 47, 48, 49, 14, 15, 16, 17, 18, 50, 51, 52, 53, 54, 55, 19, 20, 21, 22, 23, 24, 25, 26, 27, 28, 29, 30, 31, 32, 33, 34, 35, 36, 37, 38, 39] (by decide +kernel) rfl
    delta WXY at hP hD
    refine W.widen (k := c0) (n := s0) (Nat.le_refl _) (Nat.le_refl _) ?_
    refine lv_pop hx hb dL_law_616 rfl ?_
    refine lv_aload_n hx hb dL_law_617 rfl (lv_at hl 2 rfl) ?_
    refine lv_aload_n hx hb dL_law_618 rfl (lv_at hl 0 rfl) ?_
    refine lv_iload_n hx hb dL_law_619 rfl (lv_at hl 3 rfl) ?_
    refine lv_iconst (v := 1) hx hb dL_law_620 (by decide) ?_
    refine lv_iadd hx hb dL_law_621 ?_
    refine lv_topi (fun v_35 ev_35 => ?_)
    have tv_35 : v_35.toInt = ix.toInt + (1 : Int) := by rw [ev_35]; exact ti_add (x := ix) (y := 1) (show -2147483648 ≤ ix.toInt + (1 : Int) by omega) (show ix.toInt + (1 : Int) < 2147483648 by omega)
    refine va_sld hx hb hX hbl hbA hS (vp_in_iff.mpr ⟨by omega, by omega⟩) dL_law_622 ?_
    refine lv_topc (y := a1) (by rw [ev_35]; exact ha1) ?_
    refine lv_aload_n hx hb dL_law_623 rfl (lv_at hl 0 rfl) ?_
    refine lv_iload_n hx hb dL_law_624 rfl (lv_at hl 3 rfl) ?_
    refine lv_iconst (v := 2) hx hb dL_law_625 (by decide) ?_
    refine lv_iadd hx hb dL_law_626 ?_
    refine lv_topi (fun v_36 ev_36 => ?_)
    have tv_36 : v_36.toInt = ix.toInt + (2 : Int) := by rw [ev_36]; exact ti_add (x := ix) (y := 2) (show -2147483648 ≤ ix.toInt + (2 : Int) by omega) (show ix.toInt + (2 : Int) < 2147483648 by omega)
    refine va_sld hx hb hX hbl hbA hS (vp_in_iff.mpr ⟨by omega, by omega⟩) dL_law_627 ?_
    refine lv_topc (y := a2) (by rw [ev_36]; exact ha2) ?_
    refine lv_if_eq (tgt := 635) hx hb dL_law_628 (by decide) (fun c_37 => ?_) (fun c_37 => ?_)
    · have tc_37 := b_eq rfl (show (0 : Int32).toInt = 0 by decide) c_37
      exfalso; omega
    · have tc_37 := b_ne rfl (show (0 : Int32).toInt = 0 by decide) c_37
      refine lv_iconst (v := 1) hx hb dL_law_631 (by decide) ?_
      refine lv_goto (tgt := 636) hx hb dL_law_632 (by decide) ?_
      refine fV_i (As := [.int a1, .int 1]) (rest := []) ⟨hx, hb, hml, hown, hts⟩ (c_X4_share l D cI cZ cM y0 a1 1 ype ytk ywi yki yse yno yrh yrw yrk yrt yrp yrq ytx yle yat yfa yby ylo yhi yac ynx yro ygl ysn yso ysp ysw ysd yik ykp Yno Yki Yby Ylo Yhi Ywi Ygl _ hByO (show 0 ≤ ype.toInt ∧ ype.toInt ≤ 5 by omega) (show 0 ≤ ytk.toInt ∧ ytk.toInt ≤ 6 by omega)) (cwV 2 hts gL_law_X4_share rfl rfl rfl (by decide +kernel) ⟨by rw [hR]; decide, by rw [hR]; decide⟩) hK hP hD hS hA [36, 40, 38, 46, 47, 48, 37, 50] [0, 1, 2, 3, 4, 5, 6, 7, 8, 9, 10, 11, 12, 13, 14, 15, 16, 17, 18, 19, 20, 21, 22, 23, 24, 25, 26, 27, 28, 29, 30, 31, 32, 33, 34, 35, 39, 41, 42, 43, 44, 45, 49, 51, 52, 53, 54, 55] rfl rfl (by decide) (by decide +kernel) (by decide +kernel) rfl 36 rfl hl.1 rfl rfl (Nat.le_of_ble_eq_true rfl) dL_law_636 ⟨by rw [hR]; exact (show _ ≤ 600000 by omega), by rw [hR]; exact (show _ ≤ 7302250 by omega)⟩ (fun r_43 u_44 H locs hw hP hD hS => ?_)
      obtain ⟨Gno_38, Gby_39, Glo_40, Ghi_41, Ggl_42⟩ := u_44
      obtain ⟨hP, hD⟩ := PD_subF (X' := WXY cI cZ cM x0 y0 tx le td dr nw ac fa an kp ks sp ss sy sc sd tr ia Ftx lpe ltk lho lli lki lfd lfr lto lse lhl lFho lFli lFki lFfd lFfr lFto lFse lFhl dpe dtk dho dli dki dfd dfr dto dse dhl dFho dFli dFki dFfd dFfr dFto dFse dFhl md mt mr mg mat mfd mhd mFat mFfd mFhd Fac Fkp Fsp Fss Fsy mo rd zd1_25 zt1_26 zr1_27 zg1_28 zat zfd zhd Gzat_29 Gzfd_30 Gzhd_31 Grd_32 Fia ype ytk ywi yki yse yno yrh yrw yrk yrt yrp yrq ytx yle yat yfa yby ylo yhi yac ynx yro ygl ysn yso ysp ysw ysd yik ykp Ywi Yki Yse Gno_38 Yrh Yrw Yrk Yrt Ytx Gby_39 Glo_40 Ghi_41 Yro Ggl_42 Yso Ysp Ysw Yik Ykp) hP hD [0, 1, 2, 3, 4, 5, 6, 7, 8, 9, 10, 11, 12, 13, 14, 15, 16, 17, 18, 19, 20, 21, 22, 23, 24, 25, 26, 27, 28, 29, 30, 31, 32, 33, 34, 35, 48, 54, 50, 36, 49, 37, 38, 39, 40, 41, 51, 52, 53, 42, 55, 43, 44, 45, 46, 47] (by decide +kernel) rfl
      delta WXY at hP hD
      refine W.widen (k := c0) (n := s0) (Nat.le_refl _) (Nat.le_refl _) ?_
      have hw : ByOk Gby_39 := hw
      have hw_45 := hw
      refine lv_pop hx hb dL_law_639 rfl ?_
      refine lv_goto (tgt := 969) hx hb dL_law_640 (by decide) ?_
      refine W.widen (k := c0 + 4) (n := s0 + 27) (by omega) (by omega) ?_
      exact hNext _ _ _ (stw_intro hP hD ⟨⟨hle0, hle1⟩, ⟨hfa0, hfa1⟩, ⟨han0, han1⟩, ⟨hsc0, hsc1⟩, ⟨hlpe0, hlpe1⟩, ⟨hltk0, hltk1⟩, ⟨hmd0, hmd1⟩, ⟨hmt0, hmt1⟩, ⟨hype0, hype1⟩, ⟨hytk0, hytk1⟩, ⟨hyle0, hyle1⟩, ⟨hyac0, hyac1⟩, ⟨hynx0, hynx1⟩, ⟨hysn0, hysn1⟩, hPoA, hPoK, hMsO, hw_45, hle, hsd, hTX, hTxO, hlpt, hsct⟩) hS (lv_sub hl [0, 1, 2, 3] rfl)

set_option maxHeartbeats 1000000 in
set_option maxRecDepth 100000 in
theorem law_c19 {p : Program} {l : Launch} {e : Env} {s : State} {m : MethodId} {below : List Frame} {meth : Method} {c : Code} {b LN : Nat} {xs : Nat → Int32} {A : Nat → Prop} {args : Array Value} {R : Room} {Q : State → Prop} (hB : Lb p s m args meth c b xs A LN) (hR : R = room_1) (D : va_G) (cI cZ cM : ClassId) (hK : va_K D vwCl (ty3 cI cZ cM) s) {x0 y0 : Nat} {H : Heap} {locs : List Loc} {ls : Array Slot} {c0 s0 : Nat} (hc : c0 + 4 ≤ 600000) (hs : s0 + 27 ≤ 7302250) {ix : Int32} (hixa : 0 ≤ ix.toInt) (hixb : ix.toInt + 5 ≤ (LN : Int)) (hLN : LN ≤ 320) (hSt : StW D cI cZ cM A x0 y0 H) (hS : va_S A s.heap H locs) (hl : lv_has ls 4 [(0, .ref b), (1, .ref x0), (2, .ref y0), (3, .int ix)]) (hNext : ∀ (H : Heap) (locs : List Loc) (ls : Array Slot), StW D cI cZ cM A x0 y0 H → va_S A s.heap H locs → lv_has ls 4 [(0, .ref b), (1, .ref x0), (2, .ref y0), (3, .int ix)] → W p l e R s m args below meth c H locs (c0 + 4) (s0 + 27) Q (F0 m 969 ls [])) : W p l e R s m args below meth c H locs c0 s0 Q (F0 m 643 ls []) := by
  obtain ⟨hx, hb, hr, hml, hown, hts, hX, hbl, hlocks, hA, hAf⟩ := hB
  have hbA : ¬ A b := fun q => absurd (hAf b q) (Nat.not_le.mpr hbl)
  refine stw_elim hSt ?_
  intro tx le td dr nw ac fa an kp ks sp ss sy sc sd tr ia Ftx lpe ltk lho lli lki lfd lfr lto lse lhl lFho lFli lFki lFfd lFfr lFto lFse lFhl dpe dtk dho dli dki dfd dfr dto dse dhl dFho dFli dFki dFfd dFfr dFto dFse dFhl md mt mr mg mat mfd mhd mFat mFfd mFhd Fac Fkp Fsp Fss Fsy mo rd zd zt zr zg zat zfd zhd zFat zFfd zFhd Frd Fia ype ytk ywi yki yse yno yrh yrw yrk yrt yrp yrq ytx yle yat yfa yby ylo yhi yac ynx yro ygl ysn yso ysp ysw ysd yik ykp Ywi Yki Yse Yno Yrh Yrw Yrk Yrt Ytx Yby Ylo Yhi Yro Ygl Yso Ysp Ysw Yik Ykp L hI hP hD
  obtain ⟨⟨hle0, hle1⟩, ⟨hfa0, hfa1⟩, ⟨han0, han1⟩, ⟨hsc0, hsc1⟩, ⟨hlpe0, hlpe1⟩, ⟨hltk0, hltk1⟩, ⟨hmd0, hmd1⟩, ⟨hmt0, hmt1⟩, ⟨hype0, hype1⟩, ⟨hytk0, hytk1⟩, ⟨hyle0, hyle1⟩, ⟨hyac0, hyac1⟩, ⟨hynx0, hynx1⟩, ⟨hysn0, hysn1⟩, hPoA, hPoK, hMsO, hByO, hle, hsd, hTX, hTxO, hlpt, hsct⟩ := hI
  have hlet : le.toInt = yle.toInt := by rw [hle]
  have hTxY : TxOk Ytx := hTX ▸ hTxO
  have hFL : flt Ytx yle.toInt = flt Ftx le.toInt := by rw [hTX, hle]
  have hFL_1 : (flt Ytx yle.toInt).1 = (flt Ftx le.toInt).1 := by rw [hFL]
  have hFL_2_1 : (flt Ytx yle.toInt).2.1 = (flt Ftx le.toInt).2.1 := by rw [hFL]
  have hFL_2_2 : (flt Ytx yle.toInt).2.2 = (flt Ftx le.toInt).2.2 := by rw [hFL]
  have hsdt : sd.toInt = ysd.toInt := by rw [hsd]
  obtain ⟨a1, ha1⟩ : ∃ z : Int32, xs (ix + 1 : Int32).toNatClampNeg = z := ⟨_, rfl⟩
  obtain ⟨a2, ha2⟩ : ∃ z : Int32, xs (ix + 2 : Int32).toNatClampNeg = z := ⟨_, rfl⟩
  obtain ⟨a3, ha3⟩ : ∃ z : Int32, xs (ix + 3 : Int32).toNatClampNeg = z := ⟨_, rfl⟩
  obtain ⟨a4, ha4⟩ : ∃ z : Int32, xs (ix + 4 : Int32).toNatClampNeg = z := ⟨_, rfl⟩
  refine lv_aload_n hx hb dL_law_643 rfl (lv_at hl 1 rfl) ?_
  refine lv_aload_n hx hb dL_law_644 rfl (lv_at hl 0 rfl) ?_
  refine lv_iload_n hx hb dL_law_645 rfl (lv_at hl 3 rfl) ?_
  refine lv_iconst (v := 1) hx hb dL_law_646 (by decide) ?_
  refine lv_iadd hx hb dL_law_647 ?_
  refine lv_topi (fun v_1 ev_1 => ?_)
  have tv_1 : v_1.toInt = ix.toInt + (1 : Int) := by rw [ev_1]; exact ti_add (x := ix) (y := 1) (show -2147483648 ≤ ix.toInt + (1 : Int) by omega) (show ix.toInt + (1 : Int) < 2147483648 by omega)
  refine va_sld hx hb hX hbl hbA hS (vp_in_iff.mpr ⟨by omega, by omega⟩) dL_law_648 ?_
  refine lv_topc (y := a1) (by rw [ev_1]; exact ha1) ?_
  refine lv_aload_n hx hb dL_law_649 rfl (lv_at hl 0 rfl) ?_
  refine lv_iload_n hx hb dL_law_650 rfl (lv_at hl 3 rfl) ?_
  refine lv_iconst (v := 2) hx hb dL_law_651 (by decide) ?_
  refine lv_iadd hx hb dL_law_652 ?_
  refine lv_topi (fun v_2 ev_2 => ?_)
  have tv_2 : v_2.toInt = ix.toInt + (2 : Int) := by rw [ev_2]; exact ti_add (x := ix) (y := 2) (show -2147483648 ≤ ix.toInt + (2 : Int) by omega) (show ix.toInt + (2 : Int) < 2147483648 by omega)
  refine va_sld hx hb hX hbl hbA hS (vp_in_iff.mpr ⟨by omega, by omega⟩) dL_law_653 ?_
  refine lv_topc (y := a2) (by rw [ev_2]; exact ha2) ?_
  refine fV_i (As := [.int a1, .int a2]) (rest := []) ⟨hx, hb, hml, hown, hts⟩ (c_X3_blank l D cI cZ cM x0 a1 a2 tx le td dr nw ac fa an kp ks sp ss sy sc sd tr ia lpe ltk lho lli lki lfd lfr lto lse lhl lFto lFfr lFki lFse md mt mr mg mat mfd mhd mFat mFfd mFhd mo rd zd zt zr zg zat zfd zhd zFat zFfd zFhd Frd Fia _ (show 0 ≤ md.toInt ∧ md.toInt ≤ 10 by omega) (show 0 ≤ mt.toInt ∧ mt.toInt ≤ 6 by omega) (show 0 ≤ lpe.toInt ∧ lpe.toInt ≤ 5 by omega) (show 0 ≤ ltk.toInt ∧ ltk.toInt ≤ 6 by omega)) (cwV 2 hts gL_law_X3_blank rfl rfl rfl (by decide +kernel) ⟨by rw [hR]; decide, by rw [hR]; decide⟩) hK hP hD hS hA [0, 2, 8, 7, 5, 9, 20, 21, 22, 23, 29, 30, 31, 32, 33, 34, 35] [1, 3, 4, 6, 10, 11, 12, 13, 14, 15, 16, 17, 18, 19, 24, 25, 26, 27, 28, 36, 37, 38, 39, 40, 41, 42, 43, 44, 45, 46, 47, 48, 49, 50, 51, 52, 53, 54, 55] rfl rfl (by decide +kernel) (by decide +kernel) (by decide +kernel) rfl 0 rfl hl.1 rfl rfl (Nat.le_of_ble_eq_true rfl) dL_law_654 ⟨by rw [hR]; exact (show _ ≤ 600000 by omega), by rw [hR]; exact (show _ ≤ 7302250 by omega)⟩ (fun r_14 u_15 H locs hw hP hD hS => ?_)
  obtain ⟨Glto_3, Glfr_4, zd1_5, zt1_6, zr1_7, zg1_8, Gzat_9, Gzfd_10, Gzhd_11, Grd_12, Gia_13⟩ := u_15
  obtain ⟨hP, hD⟩ := PD_subF (X' := WXY cI cZ cM x0 y0 tx le td dr nw ac fa an kp ks sp ss sy sc sd tr ia Ftx lpe ltk lho lli lki lfd lfr lto lse lhl lFho lFli lFki lFfd Glfr_4 Glto_3 lFse lFhl dpe dtk dho dli dki dfd dfr dto dse dhl dFho dFli dFki dFfd dFfr dFto dFse dFhl md mt mr mg mat mfd mhd mFat mFfd mFhd Fac Fkp Fsp Fss Fsy mo rd zd1_5 zt1_6 zr1_7 zg1_8 zat zfd zhd Gzat_9 Gzfd_10 Gzhd_11 Grd_12 Gia_13 ype ytk ywi yki yse yno yrh yrw yrk yrt yrp yrq ytx yle yat yfa yby ylo yhi yac ynx yro ygl ysn yso ysp ysw ysd yik ykp Ywi Yki Yse Yno Yrh Yrw Yrk Yrt Ytx Yby Ylo Yhi Yro Ygl Yso Ysp Ysw Yik Ykp) hP hD [39, 0, 40, 1, 2, 43, 3, 42, 41, 44, 4, 5, 6, 7, 8, 9, 10, 11, 12, 13, 45, 46, 47, 48, 14, 15, 16, 17, 18, 49, 50, 51, 52, 53, 54, 55, 19, 20, 21, 22, 23, 24, 25, 26, 27, 28, 29, 30, 31, 32, 33, 34, 35, 36, 37, 38] (by decide +kernel) rfl
  delta WXY at hP hD
  refine W.widen (k := c0) (n := s0) (Nat.le_refl _) (Nat.le_refl _) ?_
  refine lv_pop hx hb dL_law_657 rfl ?_
  refine lv_aload_n hx hb dL_law_658 rfl (lv_at hl 2 rfl) ?_
  refine lv_aload_n hx hb dL_law_659 rfl (lv_at hl 0 rfl) ?_
  refine lv_iload_n hx hb dL_law_660 rfl (lv_at hl 3 rfl) ?_
  refine lv_iconst (v := 1) hx hb dL_law_661 (by decide) ?_
  refine lv_iadd hx hb dL_law_662 ?_
  refine lv_topi (fun v_16 ev_16 => ?_)
  have tv_16 : v_16.toInt = ix.toInt + (1 : Int) := by rw [ev_16]; exact ti_add (x := ix) (y := 1) (show -2147483648 ≤ ix.toInt + (1 : Int) by omega) (show ix.toInt + (1 : Int) < 2147483648 by omega)
  refine va_sld hx hb hX hbl hbA hS (vp_in_iff.mpr ⟨by omega, by omega⟩) dL_law_663 ?_
  refine lv_topc (y := a1) (by rw [ev_16]; exact ha1) ?_
  refine lv_aload_n hx hb dL_law_664 rfl (lv_at hl 0 rfl) ?_
  refine lv_iload_n hx hb dL_law_665 rfl (lv_at hl 3 rfl) ?_
  refine lv_iconst (v := 2) hx hb dL_law_666 (by decide) ?_
  refine lv_iadd hx hb dL_law_667 ?_
  refine lv_topi (fun v_17 ev_17 => ?_)
  have tv_17 : v_17.toInt = ix.toInt + (2 : Int) := by rw [ev_17]; exact ti_add (x := ix) (y := 2) (show -2147483648 ≤ ix.toInt + (2 : Int) by omega) (show ix.toInt + (2 : Int) < 2147483648 by omega)
  refine va_sld hx hb hX hbl hbA hS (vp_in_iff.mpr ⟨by omega, by omega⟩) dL_law_668 ?_
  refine lv_topc (y := a2) (by rw [ev_17]; exact ha2) ?_
  refine fV_i (As := [.int a1, .int a2]) (rest := []) ⟨hx, hb, hml, hown, hts⟩ (c_X4_blank l D cI cZ cM y0 a1 a2 ype ytk ywi yki yse yno yrh yrw yrk yrt yrp yrq ytx yle yat yfa yby ylo yhi yac ynx yro ygl ysn yso ysp ysw ysd yik ykp Yno Yki Yby Ylo Yhi Yse _ hByO (show 0 ≤ ype.toInt ∧ ype.toInt ≤ 5 by omega) (show 0 ≤ ytk.toInt ∧ ytk.toInt ≤ 6 by omega)) (cwV 2 hts gL_law_X4_blank rfl rfl rfl (by decide +kernel) ⟨by rw [hR]; decide, by rw [hR]; decide⟩) hK hP hD hS hA [36, 40, 38, 46, 47, 48, 39] [0, 1, 2, 3, 4, 5, 6, 7, 8, 9, 10, 11, 12, 13, 14, 15, 16, 17, 18, 19, 20, 21, 22, 23, 24, 25, 26, 27, 28, 29, 30, 31, 32, 33, 34, 35, 37, 41, 42, 43, 44, 45, 49, 50, 51, 52, 53, 54, 55] rfl rfl (by decide) (by decide +kernel) (by decide +kernel) rfl 36 rfl hl.1 rfl rfl (Nat.le_of_ble_eq_true rfl) dL_law_669 ⟨by rw [hR]; exact (show _ ≤ 600000 by omega), by rw [hR]; exact (show _ ≤ 7302250 by omega)⟩ (fun r_23 u_24 H locs hw hP hD hS => ?_)
  obtain ⟨Gno_18, Gby_19, Glo_20, Ghi_21, Gse_22⟩ := u_24
  obtain ⟨hP, hD⟩ := PD_subF (X' := WXY cI cZ cM x0 y0 tx le td dr nw ac fa an kp ks sp ss sy sc sd tr ia Ftx lpe ltk lho lli lki lfd lfr lto lse lhl lFho lFli lFki lFfd Glfr_4 Glto_3 lFse lFhl dpe dtk dho dli dki dfd dfr dto dse dhl dFho dFli dFki dFfd dFfr dFto dFse dFhl md mt mr mg mat mfd mhd mFat mFfd mFhd Fac Fkp Fsp Fss Fsy mo rd zd1_5 zt1_6 zr1_7 zg1_8 zat zfd zhd Gzat_9 Gzfd_10 Gzhd_11 Grd_12 Gia_13 ype ytk ywi yki yse yno yrh yrw yrk yrt yrp yrq ytx yle yat yfa yby ylo yhi yac ynx yro ygl ysn yso ysp ysw ysd yik ykp Ywi Yki Gse_22 Gno_18 Yrh Yrw Yrk Yrt Ytx Gby_19 Glo_20 Ghi_21 Yro Ygl Yso Ysp Ysw Yik Ykp) hP hD [0, 1, 2, 3, 4, 5, 6, 7, 8, 9, 10, 11, 12, 13, 14, 15, 16, 17, 18, 19, 20, 21, 22, 23, 24, 25, 26, 27, 28, 29, 30, 31, 32, 33, 34, 35, 49, 36, 51, 55, 50, 37, 38, 39, 40, 41, 52, 53, 54, 42, 43, 44, 45, 46, 47, 48] (by decide +kernel) rfl
  delta WXY at hP hD
  refine W.widen (k := c0) (n := s0) (Nat.le_refl _) (Nat.le_refl _) ?_
  have hw : ByOk Gby_19 := hw
  have hw_25 := hw
  refine lv_pop hx hb dL_law_672 rfl ?_
  refine lv_goto (tgt := 969) hx hb dL_law_673 (by decide) ?_
  refine W.widen (k := c0 + 4) (n := s0 + 27) (by omega) (by omega) ?_
  exact hNext _ _ _ (stw_intro hP hD ⟨⟨hle0, hle1⟩, ⟨hfa0, hfa1⟩, ⟨han0, han1⟩, ⟨hsc0, hsc1⟩, ⟨hlpe0, hlpe1⟩, ⟨hltk0, hltk1⟩, ⟨hmd0, hmd1⟩, ⟨hmt0, hmt1⟩, ⟨hype0, hype1⟩, ⟨hytk0, hytk1⟩, ⟨hyle0, hyle1⟩, ⟨hyac0, hyac1⟩, ⟨hynx0, hynx1⟩, ⟨hysn0, hysn1⟩, hPoA, hPoK, hMsO, hw_25, hle, hsd, hTX, hTxO, hlpt, hsct⟩) hS (lv_sub hl [0, 1, 2, 3] rfl)
