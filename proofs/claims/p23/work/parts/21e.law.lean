set_option maxRecDepth 20000 in
theorem ggL_law_X3_see : GoodIn wsL_law wsX3_see := goodIn_r _ [656, 19, 33, 30, 31, 32, 200, 201, 202, 18, 203, 43, 614, 615, 2, 616, 757, 758, 759, 760, 761, 762, 763, 764, 765, 766, 767, 768, 769, 770, 771, 772, 773, 804, 805, 806, 807, 808, 809, 810, 811, 812, 813] rfl (by decide +kernel)
set_option maxRecDepth 20000 in
theorem gL_law_X3_see : GoodIn wsL_law (wsV RL 98 RX3 yX3_see wsX3_see) := goodIn_app (goodIn_r _ [653, 654, 655, 2] rfl (by decide +kernel)) ggL_law_X3_see
set_option maxRecDepth 20000 in
theorem ggL_law_X4_see : GoodIn wsL_law wsX4_see := goodIn_r _ [660, 648, 401, 661, 92, 93, 94, 233, 234, 235, 5, 236, 98, 109, 110, 111, 774, 775, 776, 777, 778, 779, 780, 781, 782, 783, 784, 785, 786, 787, 788, 789, 790, 791, 792, 793, 794, 795, 796, 797, 798, 799, 800, 801, 802, 803] rfl (by decide +kernel)
set_option maxRecDepth 20000 in
theorem gL_law_X4_see : GoodIn wsL_law (wsV RL 102 RX4 yX4_see wsX4_see) := goodIn_app (goodIn_r _ [657, 658, 659, 5] rfl (by decide +kernel)) ggL_law_X4_see
set_option maxRecDepth 20000 in
theorem ggL_law_X3_unsee : GoodIn wsL_law wsX3_unsee := goodIn_r _ [665, 33, 757, 758, 759, 760, 761, 762, 763, 764, 765, 766, 767, 768, 769, 770, 771, 772, 773] rfl (by decide +kernel)
set_option maxRecDepth 20000 in
theorem gL_law_X3_unsee : GoodIn wsL_law (wsV RL 103 RX3 yX3_unsee wsX3_unsee) := goodIn_app (goodIn_r _ [662, 663, 664, 2] rfl (by decide +kernel)) ggL_law_X3_unsee
set_option maxRecDepth 20000 in
theorem ggL_law_X4_unsee : GoodIn wsL_law wsX4_unsee := goodIn_r _ [669, 661, 774, 775, 776, 777, 778, 779, 780, 781, 782, 783, 784, 785, 786, 787, 788, 789, 790, 791, 792, 793, 794, 795, 796, 797, 798, 799, 800, 801, 802, 803] rfl (by decide +kernel)
set_option maxRecDepth 20000 in
theorem gL_law_X4_unsee : GoodIn wsL_law (wsV RL 106 RX4 yX4_unsee wsX4_unsee) := goodIn_app (goodIn_r _ [666, 667, 668, 5] rfl (by decide +kernel)) ggL_law_X4_unsee
set_option maxRecDepth 20000 in
theorem ggL_law_X3_held : GoodIn wsL_law wsX3_held := goodIn_r _ [673, 24, 19, 164, 38, 385, 255, 256, 257, 258, 23, 259, 58, 273, 209, 210, 211, 60, 386, 387, 388, 37, 389, 72, 390, 296, 297, 298, 57, 59, 61, 180, 171, 172, 173, 62, 63, 674, 675, 676, 2, 677, 286, 216, 678, 679, 680, 681, 33, 30, 32, 197, 31, 200, 201, 202, 18, 203, 43, 299, 300, 301, 302, 64, 303, 304, 218, 219, 220, 221, 222, 223, 224, 225, 226, 227, 228, 305, 306, 269, 270, 271, 264, 265, 266, 267, 307, 308, 309, 310, 757, 758, 759, 760, 761, 762, 763, 764, 765, 766, 767, 768, 769, 770, 771, 772, 773, 804, 805, 806, 807, 808, 809, 810, 811, 812, 813, 822, 823, 824, 814, 815, 816, 817, 818, 819, 820, 821] rfl (by decide +kernel)
set_option maxRecDepth 20000 in
theorem gL_law_X3_held : GoodIn wsL_law (wsV RL 107 RX3 yX3_held wsX3_held) := goodIn_app (goodIn_r _ [670, 671, 672, 2] rfl (by decide +kernel)) ggL_law_X3_held
set_option maxRecDepth 20000 in
theorem ggL_law_X4_held : GoodIn wsL_law wsX4_held := goodIn_r _ [685, 98, 81, 191, 278, 279, 280, 5, 281, 109, 110, 111, 237, 238, 239, 240, 402, 403, 404, 405, 686, 687, 688, 689, 661, 94, 92, 93, 233, 234, 235, 236, 320, 321, 322, 323, 87, 88, 89, 245, 246, 247, 248, 79, 324, 325, 326, 327, 774, 775, 776, 777, 778, 779, 780, 781, 782, 783, 784, 785, 786, 787, 788, 789, 790, 791, 792, 793, 794, 795, 796, 797, 798, 799, 800, 801, 802, 803] rfl (by decide +kernel)
set_option maxRecDepth 20000 in
theorem gL_law_X4_held : GoodIn wsL_law (wsV RL 110 RX4 yX4_held wsX4_held) := goodIn_app (goodIn_r _ [682, 683, 684, 5] rfl (by decide +kernel)) ggL_law_X4_held
set_option maxRecDepth 20000 in
theorem ggL_law_X3_losses : GoodIn wsL_law wsX3_losses := goodIn_r _ [693, 19, 24, 200, 201, 202, 18, 203, 43, 614, 615, 2, 616, 584, 585, 586, 23, 587, 60, 58, 588, 547, 548, 549, 550, 551, 552, 694, 695, 696, 697, 698, 699, 700, 38, 385, 344, 197, 386, 387, 388, 37, 389, 72, 390, 296, 297, 298, 57, 59, 61, 180, 171, 172, 173, 62, 63, 391, 392, 393, 394, 395, 69, 396, 300, 301, 302, 64, 303, 304, 218, 219, 220, 221, 222, 223, 224, 225, 226, 227, 228, 305, 257, 258, 259, 306, 269, 270, 271, 264, 265, 266, 267, 307, 308, 309, 310, 575, 576, 577, 578, 579, 424, 580, 581, 582, 583, 757, 758, 759, 760, 761, 762, 763, 764, 765, 766, 767, 768, 769, 770, 771, 772, 773, 804, 805, 806, 807, 808, 809, 810, 811, 812, 813, 814, 815, 816, 817, 818, 819, 820, 821, 822, 823, 824] rfl (by decide +kernel)
set_option maxRecDepth 20000 in
theorem gL_law_X3_losses : GoodIn wsL_law (wsV RL 111 RX3 yX3_losses wsX3_losses) := goodIn_app (goodIn_r _ [690, 691, 692, 2] rfl (by decide +kernel)) ggL_law_X3_losses
set_option maxRecDepth 20000 in
theorem ggL_law_X4_losses : GoodIn wsL_law wsX4_losses := goodIn_r _ [704, 648, 401, 191, 81, 233, 234, 235, 5, 236, 98, 109, 110, 111, 600, 601, 602, 603, 237, 238, 239, 240, 452, 453, 454, 519, 520, 521, 522, 402, 403, 404, 405, 523, 524, 525, 526, 527, 528, 529, 530, 320, 321, 322, 323, 87, 88, 89, 245, 246, 247, 248, 79, 324, 325, 326, 327, 531, 532, 533, 534, 535, 536, 537, 78, 607, 608, 609, 774, 775, 776, 777, 778, 779, 780, 781, 782, 783, 784, 785, 786, 787, 788, 789, 790, 791, 792, 793, 794, 795, 796, 797, 798, 799, 800, 801, 802, 803] rfl (by decide +kernel)
set_option maxRecDepth 20000 in
theorem gL_law_X4_losses : GoodIn wsL_law (wsV RL 115 RX4 yX4_losses wsX4_losses) := goodIn_app (goodIn_r _ [701, 702, 703, 5] rfl (by decide +kernel)) ggL_law_X4_losses
set_option maxRecDepth 20000 in
theorem ggL_law_X3_seed : GoodIn wsL_law wsX3_seed := goodIn_r _ [708, 34, 757, 758, 759, 760, 761, 762, 763, 764, 765, 766, 767, 768, 769, 770, 771, 772, 773] rfl (by decide +kernel)
set_option maxRecDepth 20000 in
theorem gL_law_X3_seed : GoodIn wsL_law (wsV RL 118 RX3 yX3_seed wsX3_seed) := goodIn_app (goodIn_r _ [705, 706, 707, 2] rfl (by decide +kernel)) ggL_law_X3_seed
set_option maxRecDepth 20000 in
theorem ggL_law_X4_seed : GoodIn wsL_law wsX4_seed := goodIn_r _ [712, 713, 774, 775, 776, 777, 778, 779, 780, 781, 782, 783, 784, 785, 786, 787, 788, 789, 790, 791, 792, 793, 794, 795, 796, 797, 798, 799, 800, 801, 802, 803] rfl (by decide +kernel)
set_option maxRecDepth 20000 in
theorem gL_law_X4_seed : GoodIn wsL_law (wsV RL 122 RX4 yX4_seed wsX4_seed) := goodIn_app (goodIn_r _ [709, 710, 711, 5] rfl (by decide +kernel)) ggL_law_X4_seed
theorem dL_law_676 : decode cL_law 676 = .ok (.aload_n 1, 1) := by decide +kernel
theorem dL_law_677 : decode cL_law 677 = .ok (.aload_n 0, 1) := by decide +kernel
theorem dL_law_678 : decode cL_law 678 = .ok (.iload_n 3, 1) := by decide +kernel
theorem dL_law_679 : decode cL_law 679 = .ok (.iconst 1, 1) := by decide +kernel
theorem dL_law_680 : decode cL_law 680 = .ok (.iadd, 1) := by decide +kernel
theorem dL_law_681 : decode cL_law 681 = .ok (.iaload, 1) := by decide +kernel
theorem dL_law_682 : decode cL_law 682 = .ok (.aload_n 0, 1) := by decide +kernel
theorem dL_law_683 : decode cL_law 683 = .ok (.iload_n 3, 1) := by decide +kernel
theorem dL_law_684 : decode cL_law 684 = .ok (.iconst 2, 1) := by decide +kernel
theorem dL_law_685 : decode cL_law 685 = .ok (.iadd, 1) := by decide +kernel
theorem dL_law_686 : decode cL_law 686 = .ok (.iaload, 1) := by decide +kernel
theorem dL_law_687 : decode cL_law 687 = .ok (.aload_n 0, 1) := by decide +kernel
theorem dL_law_688 : decode cL_law 688 = .ok (.iload_n 3, 1) := by decide +kernel
theorem dL_law_689 : decode cL_law 689 = .ok (.iconst 3, 1) := by decide +kernel
theorem dL_law_690 : decode cL_law 690 = .ok (.iadd, 1) := by decide +kernel
theorem dL_law_691 : decode cL_law 691 = .ok (.iaload, 1) := by decide +kernel
theorem dL_law_692 : decode cL_law 692 = .ok (.invokevirtual 98, 3) := by decide +kernel
theorem dL_law_695 : decode cL_law 695 = .ok (.pop, 1) := by decide +kernel
theorem dL_law_696 : decode cL_law 696 = .ok (.aload_n 2, 1) := by decide +kernel
theorem dL_law_697 : decode cL_law 697 = .ok (.aload_n 0, 1) := by decide +kernel
theorem dL_law_698 : decode cL_law 698 = .ok (.iload_n 3, 1) := by decide +kernel
theorem dL_law_699 : decode cL_law 699 = .ok (.iconst 1, 1) := by decide +kernel
theorem dL_law_700 : decode cL_law 700 = .ok (.iadd, 1) := by decide +kernel
theorem dL_law_701 : decode cL_law 701 = .ok (.iaload, 1) := by decide +kernel
theorem dL_law_702 : decode cL_law 702 = .ok (.aload_n 0, 1) := by decide +kernel
theorem dL_law_703 : decode cL_law 703 = .ok (.iload_n 3, 1) := by decide +kernel
theorem dL_law_704 : decode cL_law 704 = .ok (.iconst 2, 1) := by decide +kernel
theorem dL_law_705 : decode cL_law 705 = .ok (.iadd, 1) := by decide +kernel
theorem dL_law_706 : decode cL_law 706 = .ok (.iaload, 1) := by decide +kernel
theorem dL_law_707 : decode cL_law 707 = .ok (.aload_n 0, 1) := by decide +kernel
theorem dL_law_708 : decode cL_law 708 = .ok (.iload_n 3, 1) := by decide +kernel
theorem dL_law_709 : decode cL_law 709 = .ok (.iconst 3, 1) := by decide +kernel
theorem dL_law_710 : decode cL_law 710 = .ok (.iadd, 1) := by decide +kernel
theorem dL_law_711 : decode cL_law 711 = .ok (.iaload, 1) := by decide +kernel
theorem dL_law_712 : decode cL_law 712 = .ok (.invokevirtual 102, 3) := by decide +kernel
theorem dL_law_715 : decode cL_law 715 = .ok (.pop, 1) := by decide +kernel
theorem dL_law_716 : decode cL_law 716 = .ok (.goto 253, 3) := by decide +kernel
theorem dL_law_719 : decode cL_law 719 = .ok (.aload_n 1, 1) := by decide +kernel
theorem dL_law_720 : decode cL_law 720 = .ok (.invokevirtual 103, 3) := by decide +kernel
theorem dL_law_723 : decode cL_law 723 = .ok (.aload_n 2, 1) := by decide +kernel
theorem dL_law_724 : decode cL_law 724 = .ok (.invokevirtual 106, 3) := by decide +kernel
theorem dL_law_727 : decode cL_law 727 = .ok (.if_icmp .eq 242, 3) := by decide +kernel
theorem dL_law_732 : decode cL_law 732 = .ok (.aload_n 1, 1) := by decide +kernel
theorem dL_law_733 : decode cL_law 733 = .ok (.aload_n 0, 1) := by decide +kernel
theorem dL_law_734 : decode cL_law 734 = .ok (.iload_n 3, 1) := by decide +kernel
theorem dL_law_735 : decode cL_law 735 = .ok (.iconst 1, 1) := by decide +kernel
theorem dL_law_736 : decode cL_law 736 = .ok (.iadd, 1) := by decide +kernel
theorem dL_law_737 : decode cL_law 737 = .ok (.iaload, 1) := by decide +kernel
theorem dL_law_738 : decode cL_law 738 = .ok (.invokevirtual 107, 3) := by decide +kernel
theorem dL_law_741 : decode cL_law 741 = .ok (.pop, 1) := by decide +kernel
theorem dL_law_742 : decode cL_law 742 = .ok (.aload_n 2, 1) := by decide +kernel
theorem dL_law_743 : decode cL_law 743 = .ok (.aload_n 0, 1) := by decide +kernel
theorem dL_law_744 : decode cL_law 744 = .ok (.iload_n 3, 1) := by decide +kernel
theorem dL_law_745 : decode cL_law 745 = .ok (.iconst 1, 1) := by decide +kernel
theorem dL_law_746 : decode cL_law 746 = .ok (.iadd, 1) := by decide +kernel
theorem dL_law_747 : decode cL_law 747 = .ok (.iaload, 1) := by decide +kernel
theorem dL_law_748 : decode cL_law 748 = .ok (.invokevirtual 110, 3) := by decide +kernel
theorem dL_law_751 : decode cL_law 751 = .ok (.pop, 1) := by decide +kernel
theorem dL_law_752 : decode cL_law 752 = .ok (.goto 217, 3) := by decide +kernel
theorem dL_law_755 : decode cL_law 755 = .ok (.aload_n 1, 1) := by decide +kernel
theorem dL_law_756 : decode cL_law 756 = .ok (.aload_n 0, 1) := by decide +kernel
theorem dL_law_757 : decode cL_law 757 = .ok (.iload_n 3, 1) := by decide +kernel
theorem dL_law_758 : decode cL_law 758 = .ok (.iconst 1, 1) := by decide +kernel
theorem dL_law_759 : decode cL_law 759 = .ok (.iadd, 1) := by decide +kernel
theorem dL_law_760 : decode cL_law 760 = .ok (.iaload, 1) := by decide +kernel
theorem dL_law_761 : decode cL_law 761 = .ok (.aload_n 0, 1) := by decide +kernel
theorem dL_law_762 : decode cL_law 762 = .ok (.iload_n 3, 1) := by decide +kernel
theorem dL_law_763 : decode cL_law 763 = .ok (.iconst 2, 1) := by decide +kernel
theorem dL_law_764 : decode cL_law 764 = .ok (.iadd, 1) := by decide +kernel
theorem dL_law_765 : decode cL_law 765 = .ok (.iaload, 1) := by decide +kernel
theorem dL_law_766 : decode cL_law 766 = .ok (.aload_n 0, 1) := by decide +kernel
theorem dL_law_767 : decode cL_law 767 = .ok (.iload_n 3, 1) := by decide +kernel
theorem dL_law_768 : decode cL_law 768 = .ok (.iconst 3, 1) := by decide +kernel
theorem dL_law_769 : decode cL_law 769 = .ok (.iadd, 1) := by decide +kernel
theorem dL_law_770 : decode cL_law 770 = .ok (.iaload, 1) := by decide +kernel
theorem dL_law_771 : decode cL_law 771 = .ok (.aload_n 0, 1) := by decide +kernel
theorem dL_law_772 : decode cL_law 772 = .ok (.iload_n 3, 1) := by decide +kernel
theorem dL_law_773 : decode cL_law 773 = .ok (.iconst 4, 1) := by decide +kernel
theorem dL_law_774 : decode cL_law 774 = .ok (.iadd, 1) := by decide +kernel
theorem dL_law_775 : decode cL_law 775 = .ok (.iaload, 1) := by decide +kernel
theorem dL_law_776 : decode cL_law 776 = .ok (.ifCond .eq 7, 3) := by decide +kernel
theorem dL_law_779 : decode cL_law 779 = .ok (.iconst 1, 1) := by decide +kernel
theorem dL_law_780 : decode cL_law 780 = .ok (.goto 4, 3) := by decide +kernel
theorem dL_law_783 : decode cL_law 783 = .ok (.iconst 0, 1) := by decide +kernel
theorem dL_law_784 : decode cL_law 784 = .ok (.invokevirtual 111, 3) := by decide +kernel
theorem dL_law_787 : decode cL_law 787 = .ok (.pop, 1) := by decide +kernel
theorem dL_law_788 : decode cL_law 788 = .ok (.aload_n 2, 1) := by decide +kernel
theorem dL_law_789 : decode cL_law 789 = .ok (.aload_n 0, 1) := by decide +kernel
theorem dL_law_790 : decode cL_law 790 = .ok (.iload_n 3, 1) := by decide +kernel
theorem dL_law_791 : decode cL_law 791 = .ok (.iconst 1, 1) := by decide +kernel
theorem dL_law_792 : decode cL_law 792 = .ok (.iadd, 1) := by decide +kernel
theorem dL_law_793 : decode cL_law 793 = .ok (.iaload, 1) := by decide +kernel
theorem dL_law_794 : decode cL_law 794 = .ok (.aload_n 0, 1) := by decide +kernel
theorem dL_law_795 : decode cL_law 795 = .ok (.iload_n 3, 1) := by decide +kernel
theorem dL_law_796 : decode cL_law 796 = .ok (.iconst 2, 1) := by decide +kernel
theorem dL_law_797 : decode cL_law 797 = .ok (.iadd, 1) := by decide +kernel
theorem dL_law_798 : decode cL_law 798 = .ok (.iaload, 1) := by decide +kernel
theorem dL_law_799 : decode cL_law 799 = .ok (.aload_n 0, 1) := by decide +kernel
theorem dL_law_800 : decode cL_law 800 = .ok (.iload_n 3, 1) := by decide +kernel
theorem dL_law_801 : decode cL_law 801 = .ok (.iconst 3, 1) := by decide +kernel
theorem dL_law_802 : decode cL_law 802 = .ok (.iadd, 1) := by decide +kernel
theorem dL_law_803 : decode cL_law 803 = .ok (.iaload, 1) := by decide +kernel
theorem dL_law_804 : decode cL_law 804 = .ok (.aload_n 0, 1) := by decide +kernel
theorem dL_law_805 : decode cL_law 805 = .ok (.iload_n 3, 1) := by decide +kernel
theorem dL_law_806 : decode cL_law 806 = .ok (.iconst 4, 1) := by decide +kernel
theorem dL_law_807 : decode cL_law 807 = .ok (.iadd, 1) := by decide +kernel
theorem dL_law_808 : decode cL_law 808 = .ok (.iaload, 1) := by decide +kernel
theorem dL_law_809 : decode cL_law 809 = .ok (.ifCond .eq 7, 3) := by decide +kernel
theorem dL_law_812 : decode cL_law 812 = .ok (.iconst 1, 1) := by decide +kernel
theorem dL_law_813 : decode cL_law 813 = .ok (.goto 4, 3) := by decide +kernel
theorem dL_law_816 : decode cL_law 816 = .ok (.iconst 0, 1) := by decide +kernel
theorem dL_law_817 : decode cL_law 817 = .ok (.invokevirtual 115, 3) := by decide +kernel
theorem dL_law_820 : decode cL_law 820 = .ok (.pop, 1) := by decide +kernel
theorem dL_law_821 : decode cL_law 821 = .ok (.goto 148, 3) := by decide +kernel
theorem dL_law_824 : decode cL_law 824 = .ok (.aload_n 1, 1) := by decide +kernel
theorem dL_law_825 : decode cL_law 825 = .ok (.aload_n 0, 1) := by decide +kernel
theorem dL_law_826 : decode cL_law 826 = .ok (.iload_n 3, 1) := by decide +kernel
theorem dL_law_827 : decode cL_law 827 = .ok (.iconst 1, 1) := by decide +kernel
theorem dL_law_828 : decode cL_law 828 = .ok (.iadd, 1) := by decide +kernel
theorem dL_law_829 : decode cL_law 829 = .ok (.iaload, 1) := by decide +kernel
theorem dL_law_830 : decode cL_law 830 = .ok (.i2l, 1) := by decide +kernel
theorem dL_law_831 : decode cL_law 831 = .ok (.bipush 32, 2) := by decide +kernel
theorem dL_law_833 : decode cL_law 833 = .ok (.lshl, 1) := by decide +kernel
theorem dL_law_834 : decode cL_law 834 = .ok (.aload_n 0, 1) := by decide +kernel
theorem dL_law_835 : decode cL_law 835 = .ok (.iload_n 3, 1) := by decide +kernel
theorem dL_law_836 : decode cL_law 836 = .ok (.iconst 2, 1) := by decide +kernel
theorem dL_law_837 : decode cL_law 837 = .ok (.iadd, 1) := by decide +kernel
theorem dL_law_838 : decode cL_law 838 = .ok (.iaload, 1) := by decide +kernel
theorem dL_law_839 : decode cL_law 839 = .ok (.i2l, 1) := by decide +kernel
theorem dL_law_840 : decode cL_law 840 = .ok (.ldc2_w 116, 3) := by decide +kernel
theorem dL_law_843 : decode cL_law 843 = .ok (.land, 1) := by decide +kernel
theorem dL_law_844 : decode cL_law 844 = .ok (.lor, 1) := by decide +kernel
theorem dL_law_845 : decode cL_law 845 = .ok (.invokevirtual 118, 3) := by decide +kernel
theorem dL_law_848 : decode cL_law 848 = .ok (.pop2, 1) := by decide +kernel
theorem dL_law_849 : decode cL_law 849 = .ok (.aload_n 2, 1) := by decide +kernel
theorem dL_law_850 : decode cL_law 850 = .ok (.aload_n 0, 1) := by decide +kernel
theorem dL_law_851 : decode cL_law 851 = .ok (.iload_n 3, 1) := by decide +kernel
theorem dL_law_852 : decode cL_law 852 = .ok (.iconst 1, 1) := by decide +kernel
theorem dL_law_853 : decode cL_law 853 = .ok (.iadd, 1) := by decide +kernel
theorem dL_law_854 : decode cL_law 854 = .ok (.iaload, 1) := by decide +kernel
theorem dL_law_855 : decode cL_law 855 = .ok (.i2l, 1) := by decide +kernel
theorem dL_law_856 : decode cL_law 856 = .ok (.bipush 32, 2) := by decide +kernel
theorem dL_law_858 : decode cL_law 858 = .ok (.lshl, 1) := by decide +kernel
theorem dL_law_859 : decode cL_law 859 = .ok (.aload_n 0, 1) := by decide +kernel
theorem dL_law_860 : decode cL_law 860 = .ok (.iload_n 3, 1) := by decide +kernel
theorem dL_law_861 : decode cL_law 861 = .ok (.iconst 2, 1) := by decide +kernel
theorem dL_law_862 : decode cL_law 862 = .ok (.iadd, 1) := by decide +kernel
theorem dL_law_863 : decode cL_law 863 = .ok (.iaload, 1) := by decide +kernel
theorem dL_law_864 : decode cL_law 864 = .ok (.i2l, 1) := by decide +kernel
theorem dL_law_865 : decode cL_law 865 = .ok (.ldc2_w 116, 3) := by decide +kernel
theorem dL_law_868 : decode cL_law 868 = .ok (.land, 1) := by decide +kernel
theorem dL_law_869 : decode cL_law 869 = .ok (.lor, 1) := by decide +kernel
theorem dL_law_870 : decode cL_law 870 = .ok (.invokevirtual 122, 3) := by decide +kernel
theorem dL_law_873 : decode cL_law 873 = .ok (.pop2, 1) := by decide +kernel
theorem dL_law_874 : decode cL_law 874 = .ok (.goto 95, 3) := by decide +kernel
set_option maxHeartbeats 1000000 in
set_option maxRecDepth 100000 in
theorem law_c20 {p : Program} {l : Launch} {e : Env} {s : State} {m : MethodId} {below : List Frame} {meth : Method} {c : Code} {b LN : Nat} {xs : Nat → Int32} {A : Nat → Prop} {args : Array Value} {R : Room} {Q : State → Prop} (hB : Lb p s m args meth c b xs A LN) (hR : R = room_1) (D : va_G) (cI cZ cM : ClassId) (hK : va_K D vwCl (ty3 cI cZ cM) s) {x0 y0 : Nat} {H : Heap} {locs : List Loc} {ls : Array Slot} {c0 s0 : Nat} (hc : c0 + 4 ≤ 600000) (hs : s0 + 27 ≤ 7302250) {ix : Int32} (hixa : 0 ≤ ix.toInt) (hixb : ix.toInt + 5 ≤ (LN : Int)) (hLN : LN ≤ 320) (hSt : StW D cI cZ cM A x0 y0 H) (hS : va_S A s.heap H locs) (hl : lv_has ls 4 [(0, .ref b), (1, .ref x0), (2, .ref y0), (3, .int ix)]) (hNext : ∀ (H : Heap) (locs : List Loc) (ls : Array Slot), StW D cI cZ cM A x0 y0 H → va_S A s.heap H locs → lv_has ls 4 [(0, .ref b), (1, .ref x0), (2, .ref y0), (3, .int ix)] → W p l e R s m args below meth c H locs (c0 + 4) (s0 + 27) Q (F0 m 969 ls [])) : W p l e R s m args below meth c H locs c0 s0 Q (F0 m 676 ls []) := by
  obtain ⟨hx, hb, hr, hml, hown, hts, hX, hbl, hlocks, hA, hAf⟩ := hB
  have hbA : ¬ A b := fun q => absurd (hAf b q) (Nat.not_le.mpr hbl)
  refine stw_elim hSt ?_
  intro tx le td dr nw ac fa an kp ks sp ss sy sc sd tr ia Ftx lpe ltk lho lli lki lfd lfr lto lse lhl lFho lFli lFki lFfd lFfr lFto lFse lFhl dpe dtk dho dli dki dfd dfr dto dse dhl dFho dFli dFki dFfd dFfr dFto dFse dFhl md mt mr mg mat mfd mhd mFat mFfd mFhd Fac Fkp Fsp Fss Fsy mo rd zd zt zr zg zat zfd zhd zFat zFfd zFhd Frd Fia ype ytk ywi yki yse yno yrh yrw yrk yrt yrp yrq ytx yle yat yfa yby ylo yhi yac ynx yro ygl ysn yso ysp ysw ysd yik ykp Ywi Yki Yse Yno Yrh Yrw Yrk Yrt Ytx Yby Ylo Yhi Yro Ygl Yso Ysp Ysw Yik Ykp L hI hP hD
  obtain ⟨⟨hle0, hle1⟩, ⟨hfa0, hfa1⟩, ⟨han0, han1⟩, ⟨hsc0, hsc1⟩, ⟨hlpe0, hlpe1⟩, ⟨hltk0, hltk1⟩, ⟨hmd0, hmd1⟩, ⟨hmt0, hmt1⟩, ⟨hype0, hype1⟩, ⟨hytk0, hytk1⟩, ⟨hyle0, hyle1⟩, ⟨hyac0, hyac1⟩, ⟨hynx0, hynx1⟩, ⟨hysn0, hysn1⟩, hPoA, hPoK, hMsO, hByO, hle, hsd, hTX, hTxO, hlpt, hsct⟩ := hI
  have hlet : le.toInt = yle.toInt := by rw [hle]
  have hTxY : TxOk Ytx := hTX ▸ hTxO
  have hFL : flt Ytx yle.toInt = flt Ftx le.toInt := by rw [hTX, hle]
  have hFL_1 : (flt Ytx yle.toInt).1 = (flt Ftx le.toInt).1 := by rw [hFL]
  have hFL_2_1 : (flt Ytx yle.toInt).2.1 = (flt Ftx le.toInt).2.1 := by rw [hFL]
  have hFL_2_2 : (flt Ytx yle.toInt).2.2 = (flt Ftx le.toInt).2.2 := by rw [hFL]
  have hsdt : sd.toInt = ysd.toInt := by rw [hsd]
  obtain ⟨a1, ha1⟩ : ∃ z : Int32, xs (ix + 1 : Int32).toNatClampNeg = z := ⟨_, rfl⟩
  obtain ⟨a2, ha2⟩ : ∃ z : Int32, xs (ix + 2 : Int32).toNatClampNeg = z := ⟨_, rfl⟩
  obtain ⟨a3, ha3⟩ : ∃ z : Int32, xs (ix + 3 : Int32).toNatClampNeg = z := ⟨_, rfl⟩
  obtain ⟨a4, ha4⟩ : ∃ z : Int32, xs (ix + 4 : Int32).toNatClampNeg = z := ⟨_, rfl⟩
  refine lv_aload_n hx hb dL_law_676 rfl (lv_at hl 1 rfl) ?_
  refine lv_aload_n hx hb dL_law_677 rfl (lv_at hl 0 rfl) ?_
  refine lv_iload_n hx hb dL_law_678 rfl (lv_at hl 3 rfl) ?_
  refine lv_iconst (v := 1) hx hb dL_law_679 (by decide) ?_
  refine lv_iadd hx hb dL_law_680 ?_
  refine lv_topi (fun v_1 ev_1 => ?_)
  have tv_1 : v_1.toInt = ix.toInt + (1 : Int) := by rw [ev_1]; exact ti_add (x := ix) (y := 1) (show -2147483648 ≤ ix.toInt + (1 : Int) by omega) (show ix.toInt + (1 : Int) < 2147483648 by omega)
  refine va_sld hx hb hX hbl hbA hS (vp_in_iff.mpr ⟨by omega, by omega⟩) dL_law_681 ?_
  refine lv_topc (y := a1) (by rw [ev_1]; exact ha1) ?_
  refine lv_aload_n hx hb dL_law_682 rfl (lv_at hl 0 rfl) ?_
  refine lv_iload_n hx hb dL_law_683 rfl (lv_at hl 3 rfl) ?_
  refine lv_iconst (v := 2) hx hb dL_law_684 (by decide) ?_
  refine lv_iadd hx hb dL_law_685 ?_
  refine lv_topi (fun v_2 ev_2 => ?_)
  have tv_2 : v_2.toInt = ix.toInt + (2 : Int) := by rw [ev_2]; exact ti_add (x := ix) (y := 2) (show -2147483648 ≤ ix.toInt + (2 : Int) by omega) (show ix.toInt + (2 : Int) < 2147483648 by omega)
  refine va_sld hx hb hX hbl hbA hS (vp_in_iff.mpr ⟨by omega, by omega⟩) dL_law_686 ?_
  refine lv_topc (y := a2) (by rw [ev_2]; exact ha2) ?_
  refine lv_aload_n hx hb dL_law_687 rfl (lv_at hl 0 rfl) ?_
  refine lv_iload_n hx hb dL_law_688 rfl (lv_at hl 3 rfl) ?_
  refine lv_iconst (v := 3) hx hb dL_law_689 (by decide) ?_
  refine lv_iadd hx hb dL_law_690 ?_
  refine lv_topi (fun v_3 ev_3 => ?_)
  have tv_3 : v_3.toInt = ix.toInt + (3 : Int) := by rw [ev_3]; exact ti_add (x := ix) (y := 3) (show -2147483648 ≤ ix.toInt + (3 : Int) by omega) (show ix.toInt + (3 : Int) < 2147483648 by omega)
  refine va_sld hx hb hX hbl hbA hS (vp_in_iff.mpr ⟨by omega, by omega⟩) dL_law_691 ?_
  refine lv_topc (y := a3) (by rw [ev_3]; exact ha3) ?_
  refine fV_i (As := [.int a1, .int a2, .int a3]) (rest := []) ⟨hx, hb, hml, hown, hts⟩ (c_X3_see l D cI cZ cM x0 a1 a2 a3 tx le td dr nw ac fa an kp ks sp ss sy sc sd tr ia lpe ltk lho lli lki lfd lfr lto lse lhl Fsp Fss Fsy _ (show 0 ≤ sc.toInt ∧ sc.toInt ≤ 6 by omega)) (cwV 3 hts gL_law_X3_see rfl rfl rfl (by decide +kernel) ⟨by rw [hR]; decide, by rw [hR]; decide⟩) hK hP hD hS hA [0, 2, 26, 27, 28] [1, 3, 4, 5, 6, 7, 8, 9, 10, 11, 12, 13, 14, 15, 16, 17, 18, 19, 20, 21, 22, 23, 24, 25, 29, 30, 31, 32, 33, 34, 35, 36, 37, 38, 39, 40, 41, 42, 43, 44, 45, 46, 47, 48, 49, 50, 51, 52, 53, 54, 55] rfl rfl (by decide) (by decide +kernel) (by decide +kernel) rfl 0 rfl hl.1 rfl rfl (Nat.le_of_ble_eq_true rfl) dL_law_692 ⟨by rw [hR]; exact (show _ ≤ 600000 by omega), by rw [hR]; exact (show _ ≤ 7302250 by omega)⟩ (fun r_8 u_9 H locs hw hP hD hS => ?_)
  obtain ⟨sc1_4, Gsp_5, Gss_6, Gsy_7⟩ := u_9
  obtain ⟨hP, hD⟩ := PD_subF (X' := WXY cI cZ cM x0 y0 tx le td dr nw ac fa an kp ks sp ss sy sc1_4 sd tr ia Ftx lpe ltk lho lli lki lfd lfr lto lse lhl lFho lFli lFki lFfd lFfr lFto lFse lFhl dpe dtk dho dli dki dfd dfr dto dse dhl dFho dFli dFki dFfd dFfr dFto dFse dFhl md mt mr mg mat mfd mhd mFat mFfd mFhd Fac Fkp Gsp_5 Gss_6 Gsy_7 mo rd zd zt zr zg zat zfd zhd zFat zFfd zFhd Frd Fia ype ytk ywi yki yse yno yrh yrw yrk yrt yrp yrq ytx yle yat yfa yby ylo yhi yac ynx yro ygl ysn yso ysp ysw ysd yik ykp Ywi Yki Yse Yno Yrh Yrw Yrk Yrt Ytx Yby Ylo Yhi Yro Ygl Yso Ysp Ysw Yik Ykp) hP hD [51, 0, 52, 1, 2, 3, 4, 5, 6, 7, 8, 9, 10, 11, 12, 13, 14, 15, 16, 17, 18, 19, 20, 21, 22, 23, 53, 54, 55, 24, 25, 26, 27, 28, 29, 30, 31, 32, 33, 34, 35, 36, 37, 38, 39, 40, 41, 42, 43, 44, 45, 46, 47, 48, 49, 50] (by decide +kernel) rfl
  delta WXY at hP hD
  refine W.widen (k := c0) (n := s0) (Nat.le_refl _) (Nat.le_refl _) ?_
  have hw : ((a1.toInt < 0 ∨ lpe.toInt ≤ a1.toInt) ∧ r_8.toInt = -1 ∧ sc1_4.toInt = sc.toInt) ∨ (0 ≤ a1.toInt ∧ a1.toInt < lpe.toInt ∧ (a2.toInt < 0 ∨ 10 ≤ a2.toInt ∨ a3.toInt < 0 ∨ 10 < a3.toInt) ∧ r_8.toInt = -2 ∧ sc1_4.toInt = sc.toInt) ∨ (0 ≤ a1.toInt ∧ a1.toInt < lpe.toInt ∧ 0 ≤ a2.toInt ∧ a2.toInt < 10 ∧ 0 ≤ a3.toInt ∧ a3.toInt ≤ 10 ∧ sc.toInt = 6 ∧ r_8.toInt = -4 ∧ sc1_4.toInt = sc.toInt) ∨ (0 ≤ a1.toInt ∧ a1.toInt < lpe.toInt ∧ 0 ≤ a2.toInt ∧ a2.toInt < 10 ∧ 0 ≤ a3.toInt ∧ a3.toInt ≤ 10 ∧ sc.toInt < 6 ∧ r_8.toInt = sc.toInt + 1 ∧ sc1_4.toInt = sc.toInt + 1) := hw
  have hw_10 := hw
  refine lv_pop hx hb dL_law_695 rfl ?_
  refine lv_aload_n hx hb dL_law_696 rfl (lv_at hl 2 rfl) ?_
  refine lv_aload_n hx hb dL_law_697 rfl (lv_at hl 0 rfl) ?_
  refine lv_iload_n hx hb dL_law_698 rfl (lv_at hl 3 rfl) ?_
  refine lv_iconst (v := 1) hx hb dL_law_699 (by decide) ?_
  refine lv_iadd hx hb dL_law_700 ?_
  refine lv_topi (fun v_11 ev_11 => ?_)
  have tv_11 : v_11.toInt = ix.toInt + (1 : Int) := by rw [ev_11]; exact ti_add (x := ix) (y := 1) (show -2147483648 ≤ ix.toInt + (1 : Int) by omega) (show ix.toInt + (1 : Int) < 2147483648 by omega)
  refine va_sld hx hb hX hbl hbA hS (vp_in_iff.mpr ⟨by omega, by omega⟩) dL_law_701 ?_
  refine lv_topc (y := a1) (by rw [ev_11]; exact ha1) ?_
  refine lv_aload_n hx hb dL_law_702 rfl (lv_at hl 0 rfl) ?_
  refine lv_iload_n hx hb dL_law_703 rfl (lv_at hl 3 rfl) ?_
  refine lv_iconst (v := 2) hx hb dL_law_704 (by decide) ?_
  refine lv_iadd hx hb dL_law_705 ?_
  refine lv_topi (fun v_12 ev_12 => ?_)
  have tv_12 : v_12.toInt = ix.toInt + (2 : Int) := by rw [ev_12]; exact ti_add (x := ix) (y := 2) (show -2147483648 ≤ ix.toInt + (2 : Int) by omega) (show ix.toInt + (2 : Int) < 2147483648 by omega)
  refine va_sld hx hb hX hbl hbA hS (vp_in_iff.mpr ⟨by omega, by omega⟩) dL_law_706 ?_
  refine lv_topc (y := a2) (by rw [ev_12]; exact ha2) ?_
  refine lv_aload_n hx hb dL_law_707 rfl (lv_at hl 0 rfl) ?_
  refine lv_iload_n hx hb dL_law_708 rfl (lv_at hl 3 rfl) ?_
  refine lv_iconst (v := 3) hx hb dL_law_709 (by decide) ?_
  refine lv_iadd hx hb dL_law_710 ?_
  refine lv_topi (fun v_13 ev_13 => ?_)
  have tv_13 : v_13.toInt = ix.toInt + (3 : Int) := by rw [ev_13]; exact ti_add (x := ix) (y := 3) (show -2147483648 ≤ ix.toInt + (3 : Int) by omega) (show ix.toInt + (3 : Int) < 2147483648 by omega)
  refine va_sld hx hb hX hbl hbA hS (vp_in_iff.mpr ⟨by omega, by omega⟩) dL_law_711 ?_
  refine lv_topc (y := a3) (by rw [ev_13]; exact ha3) ?_
  refine fV_i (As := [.int a1, .int a2, .int a3]) (rest := []) ⟨hx, hb, hml, hown, hts⟩ (c_X4_see l D cI cZ cM y0 a1 a2 a3 ype ytk ywi yki yse yno yrh yrw yrk yrt yrp yrq ytx yle yat yfa yby ylo yhi yac ynx yro ygl ysn yso ysp ysw ysd yik ykp Yso Ysp Ysw _ (show 0 ≤ ype.toInt ∧ ype.toInt ≤ 5 by omega) (show 0 ≤ ytk.toInt ∧ ytk.toInt ≤ 6 by omega) (show 0 ≤ ysn.toInt ∧ ysn.toInt ≤ 6 by omega)) (cwV 3 hts gL_law_X4_see rfl rfl rfl (by decide +kernel) ⟨by rw [hR]; decide, by rw [hR]; decide⟩) hK hP hD hS hA [36, 51, 52, 53] [0, 1, 2, 3, 4, 5, 6, 7, 8, 9, 10, 11, 12, 13, 14, 15, 16, 17, 18, 19, 20, 21, 22, 23, 24, 25, 26, 27, 28, 29, 30, 31, 32, 33, 34, 35, 37, 38, 39, 40, 41, 42, 43, 44, 45, 46, 47, 48, 49, 50, 54, 55] rfl rfl (by decide) (by decide +kernel) (by decide +kernel) rfl 36 rfl hl.1 rfl rfl (Nat.le_of_ble_eq_true rfl) dL_law_712 ⟨by rw [hR]; exact (show _ ≤ 600000 by omega), by rw [hR]; exact (show _ ≤ 7302250 by omega)⟩ (fun r_18 u_19 H locs hw hP hD hS => ?_)
  obtain ⟨sn1_14, Gso_15, Gsp_16, Gsw_17⟩ := u_19
  obtain ⟨hP, hD⟩ := PD_subF (X' := WXY cI cZ cM x0 y0 tx le td dr nw ac fa an kp ks sp ss sy sc1_4 sd tr ia Ftx lpe ltk lho lli lki lfd lfr lto lse lhl lFho lFli lFki lFfd lFfr lFto lFse lFhl dpe dtk dho dli dki dfd dfr dto dse dhl dFho dFli dFki dFfd dFfr dFto dFse dFhl md mt mr mg mat mfd mhd mFat mFfd mFhd Fac Fkp Gsp_5 Gss_6 Gsy_7 mo rd zd zt zr zg zat zfd zhd zFat zFfd zFhd Frd Fia ype ytk ywi yki yse yno yrh yrw yrk yrt yrp yrq ytx yle yat yfa yby ylo yhi yac ynx yro ygl sn1_14 yso ysp ysw ysd yik ykp Ywi Yki Yse Yno Yrh Yrw Yrk Yrt Ytx Yby Ylo Yhi Yro Ygl Gso_15 Gsp_16 Gsw_17 Yik Ykp) hP hD [0, 1, 2, 3, 4, 5, 6, 7, 8, 9, 10, 11, 12, 13, 14, 15, 16, 17, 18, 19, 20, 21, 22, 23, 24, 25, 26, 27, 28, 29, 30, 31, 32, 33, 34, 35, 52, 36, 37, 38, 39, 40, 41, 42, 43, 44, 45, 46, 47, 48, 49, 53, 54, 55, 50, 51] (by decide +kernel) rfl
  delta WXY at hP hD
  refine W.widen (k := c0) (n := s0) (Nat.le_refl _) (Nat.le_refl _) ?_
  have hw : ((a1.toInt < 0 ∨ ype.toInt ≤ a1.toInt) ∧ r_18.toInt = -1 ∧ sn1_14.toInt = ysn.toInt) ∨ (0 ≤ a1.toInt ∧ a1.toInt < ype.toInt ∧ (a2.toInt < 0 ∨ 10 ≤ a2.toInt ∨ a3.toInt < 0 ∨ 10 < a3.toInt) ∧ r_18.toInt = -2 ∧ sn1_14.toInt = ysn.toInt) ∨ (0 ≤ a1.toInt ∧ a1.toInt < ype.toInt ∧ 0 ≤ a2.toInt ∧ a2.toInt < 10 ∧ 0 ≤ a3.toInt ∧ a3.toInt ≤ 10 ∧ ysn.toInt = 6 ∧ r_18.toInt = -4 ∧ sn1_14.toInt = ysn.toInt) ∨ (0 ≤ a1.toInt ∧ a1.toInt < ype.toInt ∧ 0 ≤ a2.toInt ∧ a2.toInt < 10 ∧ 0 ≤ a3.toInt ∧ a3.toInt ≤ 10 ∧ ysn.toInt < 6 ∧ r_18.toInt = ysn.toInt + 1 ∧ sn1_14.toInt = ysn.toInt + 1) := hw
  have hw_20 := hw
  refine lv_pop hx hb dL_law_715 rfl ?_
  refine lv_goto (tgt := 969) hx hb dL_law_716 (by decide) ?_
  refine W.widen (k := c0 + 4) (n := s0 + 27) (by omega) (by omega) ?_
  exact hNext _ _ _ (stw_intro hP hD ⟨⟨hle0, hle1⟩, ⟨hfa0, hfa1⟩, ⟨han0, han1⟩, (show 0 ≤ sc1_4.toInt ∧ sc1_4.toInt ≤ 6 by omega), ⟨hlpe0, hlpe1⟩, ⟨hltk0, hltk1⟩, ⟨hmd0, hmd1⟩, ⟨hmt0, hmt1⟩, ⟨hype0, hype1⟩, ⟨hytk0, hytk1⟩, ⟨hyle0, hyle1⟩, ⟨hyac0, hyac1⟩, ⟨hynx0, hynx1⟩, (show 0 ≤ sn1_14.toInt ∧ sn1_14.toInt ≤ 6 by omega), hPoA, hPoK, hMsO, hByO, hle, hsd, hTX, hTxO, hlpt, (show sc1_4.toInt = sn1_14.toInt by omega)⟩) hS (lv_sub hl [0, 1, 2, 3] rfl)

set_option maxHeartbeats 1000000 in
set_option maxRecDepth 100000 in
theorem law_c21 {p : Program} {l : Launch} {e : Env} {s : State} {m : MethodId} {below : List Frame} {meth : Method} {c : Code} {b LN : Nat} {xs : Nat → Int32} {A : Nat → Prop} {args : Array Value} {R : Room} {Q : State → Prop} (hB : Lb p s m args meth c b xs A LN) (hR : R = room_1) (D : va_G) (cI cZ cM : ClassId) (hK : va_K D vwCl (ty3 cI cZ cM) s) {x0 y0 : Nat} {H : Heap} {locs : List Loc} {ls : Array Slot} {c0 s0 : Nat} (hc : c0 + 4 ≤ 600000) (hs : s0 + 27 ≤ 7302250) {ix : Int32} (hixa : 0 ≤ ix.toInt) (hixb : ix.toInt + 5 ≤ (LN : Int)) (hLN : LN ≤ 320) (hSt : StW D cI cZ cM A x0 y0 H) (hS : va_S A s.heap H locs) (hl : lv_has ls 4 [(0, .ref b), (1, .ref x0), (2, .ref y0), (3, .int ix)]) (hNext : ∀ (H : Heap) (locs : List Loc) (ls : Array Slot), StW D cI cZ cM A x0 y0 H → va_S A s.heap H locs → lv_has ls 4 [(0, .ref b), (1, .ref x0), (2, .ref y0), (3, .int ix)] → W p l e R s m args below meth c H locs (c0 + 4) (s0 + 27) Q (F0 m 969 ls [])) : W p l e R s m args below meth c H locs c0 s0 Q (F0 m 719 ls []) := by
  obtain ⟨hx, hb, hr, hml, hown, hts, hX, hbl, hlocks, hA, hAf⟩ := hB
  have hbA : ¬ A b := fun q => absurd (hAf b q) (Nat.not_le.mpr hbl)
  refine stw_elim hSt ?_
  intro tx le td dr nw ac fa an kp ks sp ss sy sc sd tr ia Ftx lpe ltk lho lli lki lfd lfr lto lse lhl lFho lFli lFki lFfd lFfr lFto lFse lFhl dpe dtk dho dli dki dfd dfr dto dse dhl dFho dFli dFki dFfd dFfr dFto dFse dFhl md mt mr mg mat mfd mhd mFat mFfd mFhd Fac Fkp Fsp Fss Fsy mo rd zd zt zr zg zat zfd zhd zFat zFfd zFhd Frd Fia ype ytk ywi yki yse yno yrh yrw yrk yrt yrp yrq ytx yle yat yfa yby ylo yhi yac ynx yro ygl ysn yso ysp ysw ysd yik ykp Ywi Yki Yse Yno Yrh Yrw Yrk Yrt Ytx Yby Ylo Yhi Yro Ygl Yso Ysp Ysw Yik Ykp L hI hP hD
  obtain ⟨⟨hle0, hle1⟩, ⟨hfa0, hfa1⟩, ⟨han0, han1⟩, ⟨hsc0, hsc1⟩, ⟨hlpe0, hlpe1⟩, ⟨hltk0, hltk1⟩, ⟨hmd0, hmd1⟩, ⟨hmt0, hmt1⟩, ⟨hype0, hype1⟩, ⟨hytk0, hytk1⟩, ⟨hyle0, hyle1⟩, ⟨hyac0, hyac1⟩, ⟨hynx0, hynx1⟩, ⟨hysn0, hysn1⟩, hPoA, hPoK, hMsO, hByO, hle, hsd, hTX, hTxO, hlpt, hsct⟩ := hI
  have hlet : le.toInt = yle.toInt := by rw [hle]
  have hTxY : TxOk Ytx := hTX ▸ hTxO
  have hFL : flt Ytx yle.toInt = flt Ftx le.toInt := by rw [hTX, hle]
  have hFL_1 : (flt Ytx yle.toInt).1 = (flt Ftx le.toInt).1 := by rw [hFL]
  have hFL_2_1 : (flt Ytx yle.toInt).2.1 = (flt Ftx le.toInt).2.1 := by rw [hFL]
  have hFL_2_2 : (flt Ytx yle.toInt).2.2 = (flt Ftx le.toInt).2.2 := by rw [hFL]
  have hsdt : sd.toInt = ysd.toInt := by rw [hsd]
  obtain ⟨a1, ha1⟩ : ∃ z : Int32, xs (ix + 1 : Int32).toNatClampNeg = z := ⟨_, rfl⟩
  obtain ⟨a2, ha2⟩ : ∃ z : Int32, xs (ix + 2 : Int32).toNatClampNeg = z := ⟨_, rfl⟩
  obtain ⟨a3, ha3⟩ : ∃ z : Int32, xs (ix + 3 : Int32).toNatClampNeg = z := ⟨_, rfl⟩
  obtain ⟨a4, ha4⟩ : ∃ z : Int32, xs (ix + 4 : Int32).toNatClampNeg = z := ⟨_, rfl⟩
  refine lv_aload_n hx hb dL_law_719 rfl (lv_at hl 1 rfl) ?_
  refine fV_i (As := []) (rest := []) ⟨hx, hb, hml, hown, hts⟩ (c_X3_unsee l D cI cZ cM x0 tx le td dr nw ac fa an kp ks sp ss sy sc sd tr ia _ ) (cwV 0 hts gL_law_X3_unsee rfl rfl rfl (by decide +kernel) ⟨by rw [hR]; decide, by rw [hR]; decide⟩) hK hP hD hS hA [0] [1, 2, 3, 4, 5, 6, 7, 8, 9, 10, 11, 12, 13, 14, 15, 16, 17, 18, 19, 20, 21, 22, 23, 24, 25, 26, 27, 28, 29, 30, 31, 32, 33, 34, 35, 36, 37, 38, 39, 40, 41, 42, 43, 44, 45, 46, 47, 48, 49, 50, 51, 52, 53, 54, 55] rfl rfl (by decide) (by decide +kernel) (by decide +kernel) rfl 0 rfl hl.1 rfl rfl (Nat.le_of_ble_eq_true rfl) dL_law_720 ⟨by rw [hR]; exact (show _ ≤ 600000 by omega), by rw [hR]; exact (show _ ≤ 7302250 by omega)⟩ (fun r_1 u_2 H locs hw hP hD hS => ?_)
  obtain ⟨hP, hD⟩ := PD_subF (X' := WXY cI cZ cM x0 y0 tx le td dr nw ac fa an kp ks sp ss sy 0 sd tr ia Ftx lpe ltk lho lli lki lfd lfr lto lse lhl lFho lFli lFki lFfd lFfr lFto lFse lFhl dpe dtk dho dli dki dfd dfr dto dse dhl dFho dFli dFki dFfd dFfr dFto dFse dFhl md mt mr mg mat mfd mhd mFat mFfd mFhd Fac Fkp Fsp Fss Fsy mo rd zd zt zr zg zat zfd zhd zFat zFfd zFhd Frd Fia ype ytk ywi yki yse yno yrh yrw yrk yrt yrp yrq ytx yle yat yfa yby ylo yhi yac ynx yro ygl ysn yso ysp ysw ysd yik ykp Ywi Yki Yse Yno Yrh Yrw Yrk Yrt Ytx Yby Ylo Yhi Yro Ygl Yso Ysp Ysw Yik Ykp) hP hD [55, 0, 1, 2, 3, 4, 5, 6, 7, 8, 9, 10, 11, 12, 13, 14, 15, 16, 17, 18, 19, 20, 21, 22, 23, 24, 25, 26, 27, 28, 29, 30, 31, 32, 33, 34, 35, 36, 37, 38, 39, 40, 41, 42, 43, 44, 45, 46, 47, 48, 49, 50, 51, 52, 53, 54] (by decide +kernel) rfl
  delta WXY at hP hD
  refine W.widen (k := c0) (n := s0) (Nat.le_refl _) (Nat.le_refl _) ?_
  have hw : r_1.toInt = sc.toInt := hw
  have hw_3 := hw
  refine lv_aload_n hx hb dL_law_723 rfl (lv_at hl 2 rfl) ?_
  refine fV_i (As := []) (rest := [.int r_1]) ⟨hx, hb, hml, hown, hts⟩ (c_X4_unsee l D cI cZ cM y0 ype ytk ywi yki yse yno yrh yrw yrk yrt yrp yrq ytx yle yat yfa yby ylo yhi yac ynx yro ygl ysn yso ysp ysw ysd yik ykp _ ) (cwV 0 hts gL_law_X4_unsee rfl rfl rfl (by decide +kernel) ⟨by rw [hR]; decide, by rw [hR]; decide⟩) hK hP hD hS hA [36] [0, 1, 2, 3, 4, 5, 6, 7, 8, 9, 10, 11, 12, 13, 14, 15, 16, 17, 18, 19, 20, 21, 22, 23, 24, 25, 26, 27, 28, 29, 30, 31, 32, 33, 34, 35, 37, 38, 39, 40, 41, 42, 43, 44, 45, 46, 47, 48, 49, 50, 51, 52, 53, 54, 55] rfl rfl (by decide) (by decide +kernel) (by decide +kernel) rfl 36 rfl hl.1 rfl rfl (Nat.le_of_ble_eq_true rfl) dL_law_724 ⟨by rw [hR]; exact (show _ ≤ 600000 by omega), by rw [hR]; exact (show _ ≤ 7302250 by omega)⟩ (fun r_4 u_5 H locs hw hP hD hS => ?_)
  obtain ⟨hP, hD⟩ := PD_subF (X' := WXY cI cZ cM x0 y0 tx le td dr nw ac fa an kp ks sp ss sy 0 sd tr ia Ftx lpe ltk lho lli lki lfd lfr lto lse lhl lFho lFli lFki lFfd lFfr lFto lFse lFhl dpe dtk dho dli dki dfd dfr dto dse dhl dFho dFli dFki dFfd dFfr dFto dFse dFhl md mt mr mg mat mfd mhd mFat mFfd mFhd Fac Fkp Fsp Fss Fsy mo rd zd zt zr zg zat zfd zhd zFat zFfd zFhd Frd Fia ype ytk ywi yki yse yno yrh yrw yrk yrt yrp yrq ytx yle yat yfa yby ylo yhi yac ynx yro ygl 0 yso ysp ysw ysd yik ykp Ywi Yki Yse Yno Yrh Yrw Yrk Yrt Ytx Yby Ylo Yhi Yro Ygl Yso Ysp Ysw Yik Ykp) hP hD [0, 1, 2, 3, 4, 5, 6, 7, 8, 9, 10, 11, 12, 13, 14, 15, 16, 17, 18, 19, 20, 21, 22, 23, 24, 25, 26, 27, 28, 29, 30, 31, 32, 33, 34, 35, 55, 36, 37, 38, 39, 40, 41, 42, 43, 44, 45, 46, 47, 48, 49, 50, 51, 52, 53, 54] (by decide +kernel) rfl
  delta WXY at hP hD
  refine W.widen (k := c0) (n := s0) (Nat.le_refl _) (Nat.le_refl _) ?_
  have hw : r_4.toInt = ysn.toInt := hw
  have hw_6 := hw
  refine lv_icmp_eq (tgt := 969) hx hb dL_law_727 (by decide) (fun c_7 => ?_) (fun c_7 => ?_)
  · have tc_7 := b_eq rfl rfl c_7
    refine W.widen (k := c0 + 4) (n := s0 + 27) (by omega) (by omega) ?_
    exact hNext _ _ _ (stw_intro hP hD ⟨⟨hle0, hle1⟩, ⟨hfa0, hfa1⟩, ⟨han0, han1⟩, (by decide), ⟨hlpe0, hlpe1⟩, ⟨hltk0, hltk1⟩, ⟨hmd0, hmd1⟩, ⟨hmt0, hmt1⟩, ⟨hype0, hype1⟩, ⟨hytk0, hytk1⟩, ⟨hyle0, hyle1⟩, ⟨hyac0, hyac1⟩, ⟨hynx0, hynx1⟩, (by decide), hPoA, hPoK, hMsO, hByO, hle, hsd, hTX, hTxO, hlpt, rfl⟩) hS (lv_sub hl [0, 1, 2, 3] rfl)
  · have tc_7 := b_ne rfl rfl c_7
    exfalso; omega

set_option maxHeartbeats 1000000 in
set_option maxRecDepth 100000 in
theorem law_c22 {p : Program} {l : Launch} {e : Env} {s : State} {m : MethodId} {below : List Frame} {meth : Method} {c : Code} {b LN : Nat} {xs : Nat → Int32} {A : Nat → Prop} {args : Array Value} {R : Room} {Q : State → Prop} (hB : Lb p s m args meth c b xs A LN) (hR : R = room_1) (D : va_G) (cI cZ cM : ClassId) (hK : va_K D vwCl (ty3 cI cZ cM) s) {x0 y0 : Nat} {H : Heap} {locs : List Loc} {ls : Array Slot} {c0 s0 : Nat} (hc : c0 + 4 ≤ 600000) (hs : s0 + 27 ≤ 7302250) {ix : Int32} (hixa : 0 ≤ ix.toInt) (hixb : ix.toInt + 5 ≤ (LN : Int)) (hLN : LN ≤ 320) (hSt : StW D cI cZ cM A x0 y0 H) (hS : va_S A s.heap H locs) (hl : lv_has ls 4 [(0, .ref b), (1, .ref x0), (2, .ref y0), (3, .int ix)]) (hNext : ∀ (H : Heap) (locs : List Loc) (ls : Array Slot), StW D cI cZ cM A x0 y0 H → va_S A s.heap H locs → lv_has ls 4 [(0, .ref b), (1, .ref x0), (2, .ref y0), (3, .int ix)] → W p l e R s m args below meth c H locs (c0 + 4) (s0 + 27) Q (F0 m 969 ls [])) : W p l e R s m args below meth c H locs c0 s0 Q (F0 m 732 ls []) := by
  obtain ⟨hx, hb, hr, hml, hown, hts, hX, hbl, hlocks, hA, hAf⟩ := hB
  have hbA : ¬ A b := fun q => absurd (hAf b q) (Nat.not_le.mpr hbl)
  refine stw_elim hSt ?_
  intro tx le td dr nw ac fa an kp ks sp ss sy sc sd tr ia Ftx lpe ltk lho lli lki lfd lfr lto lse lhl lFho lFli lFki lFfd lFfr lFto lFse lFhl dpe dtk dho dli dki dfd dfr dto dse dhl dFho dFli dFki dFfd dFfr dFto dFse dFhl md mt mr mg mat mfd mhd mFat mFfd mFhd Fac Fkp Fsp Fss Fsy mo rd zd zt zr zg zat zfd zhd zFat zFfd zFhd Frd Fia ype ytk ywi yki yse yno yrh yrw yrk yrt yrp yrq ytx yle yat yfa yby ylo yhi yac ynx yro ygl ysn yso ysp ysw ysd yik ykp Ywi Yki Yse Yno Yrh Yrw Yrk Yrt Ytx Yby Ylo Yhi Yro Ygl Yso Ysp Ysw Yik Ykp L hI hP hD
  obtain ⟨⟨hle0, hle1⟩, ⟨hfa0, hfa1⟩, ⟨han0, han1⟩, ⟨hsc0, hsc1⟩, ⟨hlpe0, hlpe1⟩, ⟨hltk0, hltk1⟩, ⟨hmd0, hmd1⟩, ⟨hmt0, hmt1⟩, ⟨hype0, hype1⟩, ⟨hytk0, hytk1⟩, ⟨hyle0, hyle1⟩, ⟨hyac0, hyac1⟩, ⟨hynx0, hynx1⟩, ⟨hysn0, hysn1⟩, hPoA, hPoK, hMsO, hByO, hle, hsd, hTX, hTxO, hlpt, hsct⟩ := hI
  have hlet : le.toInt = yle.toInt := by rw [hle]
  have hTxY : TxOk Ytx := hTX ▸ hTxO
  have hFL : flt Ytx yle.toInt = flt Ftx le.toInt := by rw [hTX, hle]
  have hFL_1 : (flt Ytx yle.toInt).1 = (flt Ftx le.toInt).1 := by rw [hFL]
  have hFL_2_1 : (flt Ytx yle.toInt).2.1 = (flt Ftx le.toInt).2.1 := by rw [hFL]
  have hFL_2_2 : (flt Ytx yle.toInt).2.2 = (flt Ftx le.toInt).2.2 := by rw [hFL]
  have hsdt : sd.toInt = ysd.toInt := by rw [hsd]
  obtain ⟨a1, ha1⟩ : ∃ z : Int32, xs (ix + 1 : Int32).toNatClampNeg = z := ⟨_, rfl⟩
  obtain ⟨a2, ha2⟩ : ∃ z : Int32, xs (ix + 2 : Int32).toNatClampNeg = z := ⟨_, rfl⟩
  obtain ⟨a3, ha3⟩ : ∃ z : Int32, xs (ix + 3 : Int32).toNatClampNeg = z := ⟨_, rfl⟩
  obtain ⟨a4, ha4⟩ : ∃ z : Int32, xs (ix + 4 : Int32).toNatClampNeg = z := ⟨_, rfl⟩
  refine lv_aload_n hx hb dL_law_732 rfl (lv_at hl 1 rfl) ?_
  refine lv_aload_n hx hb dL_law_733 rfl (lv_at hl 0 rfl) ?_
  refine lv_iload_n hx hb dL_law_734 rfl (lv_at hl 3 rfl) ?_
  refine lv_iconst (v := 1) hx hb dL_law_735 (by decide) ?_
  refine lv_iadd hx hb dL_law_736 ?_
  refine lv_topi (fun v_1 ev_1 => ?_)
  have tv_1 : v_1.toInt = ix.toInt + (1 : Int) := by rw [ev_1]; exact ti_add (x := ix) (y := 1) (show -2147483648 ≤ ix.toInt + (1 : Int) by omega) (show ix.toInt + (1 : Int) < 2147483648 by omega)
  refine va_sld hx hb hX hbl hbA hS (vp_in_iff.mpr ⟨by omega, by omega⟩) dL_law_737 ?_
  refine lv_topc (y := a1) (by rw [ev_1]; exact ha1) ?_
  refine fV_i (As := [.int a1]) (rest := []) ⟨hx, hb, hml, hown, hts⟩ (c_X3_held l D cI cZ cM x0 a1 tx le td dr nw ac fa an kp ks sp ss sy sc sd tr ia lpe ltk lho lli lki lfd lfr lto lse lhl lFto lFfr lFki md mt mr mg mat mfd mhd mFat mFfd mFhd Fsp Fss Fsy mo rd zd zt zr zg zat zfd zhd zFat zFfd zFhd Frd _ (show 0 ≤ md.toInt ∧ md.toInt ≤ 10 by omega) (show 0 ≤ mt.toInt ∧ mt.toInt ≤ 6 by omega) (show 0 ≤ lpe.toInt ∧ lpe.toInt ≤ 5 by omega) (show 0 ≤ sc.toInt ∧ sc.toInt ≤ 6 by omega)) (cwV 1 hts gL_law_X3_held rfl rfl rfl (by decide +kernel) ⟨by rw [hR]; decide, by rw [hR]; decide⟩) hK hP hD hS hA [0, 2, 8, 7, 5, 20, 21, 22, 23, 26, 27, 28, 29, 30, 31, 32, 33, 34] [1, 3, 4, 6, 9, 10, 11, 12, 13, 14, 15, 16, 17, 18, 19, 24, 25, 35, 36, 37, 38, 39, 40, 41, 42, 43, 44, 45, 46, 47, 48, 49, 50, 51, 52, 53, 54, 55] rfl rfl (by decide +kernel) (by decide +kernel) (by decide +kernel) rfl 0 rfl hl.1 rfl rfl (Nat.le_of_ble_eq_true rfl) dL_law_738 ⟨by rw [hR]; exact (show _ ≤ 600000 by omega), by rw [hR]; exact (show _ ≤ 7302250 by omega)⟩ (fun r_10 u_11 H locs hw hP hD hS => ?_)
  obtain ⟨zd1_2, zt1_3, zr1_4, zg1_5, Gzat_6, Gzfd_7, Gzhd_8, Grd_9⟩ := u_11
  obtain ⟨hP, hD⟩ := PD_subF (X' := WXY cI cZ cM x0 y0 tx le td dr nw ac fa an kp ks sp ss sy sc sd tr ia Ftx lpe ltk lho lli lki lfd lfr lto lse lhl lFho lFli lFki lFfd lFfr lFto lFse lFhl dpe dtk dho dli dki dfd dfr dto dse dhl dFho dFli dFki dFfd dFfr dFto dFse dFhl md mt mr mg mat mfd mhd mFat mFfd mFhd Fac Fkp Fsp Fss Fsy mo rd zd1_2 zt1_3 zr1_4 zg1_5 zat zfd zhd Gzat_6 Gzfd_7 Gzhd_8 Grd_9 Fia ype ytk ywi yki yse yno yrh yrw yrk yrt yrp yrq ytx yle yat yfa yby ylo yhi yac ynx yro ygl ysn yso ysp ysw ysd yik ykp Ywi Yki Yse Yno Yrh Yrw Yrk Yrt Ytx Yby Ylo Yhi Yro Ygl Yso Ysp Ysw Yik Ykp) hP hD [38, 0, 39, 1, 2, 42, 3, 41, 40, 4, 5, 6, 7, 8, 9, 10, 11, 12, 13, 14, 43, 44, 45, 46, 15, 16, 47, 48, 49, 50, 51, 52, 53, 54, 55, 17, 18, 19, 20, 21, 22, 23, 24, 25, 26, 27, 28, 29, 30, 31, 32, 33, 34, 35, 36, 37] (by decide +kernel) rfl
  delta WXY at hP hD
  refine W.widen (k := c0) (n := s0) (Nat.le_refl _) (Nat.le_refl _) ?_
  refine lv_pop hx hb dL_law_741 rfl ?_
  refine lv_aload_n hx hb dL_law_742 rfl (lv_at hl 2 rfl) ?_
  refine lv_aload_n hx hb dL_law_743 rfl (lv_at hl 0 rfl) ?_
  refine lv_iload_n hx hb dL_law_744 rfl (lv_at hl 3 rfl) ?_
  refine lv_iconst (v := 1) hx hb dL_law_745 (by decide) ?_
  refine lv_iadd hx hb dL_law_746 ?_
  refine lv_topi (fun v_12 ev_12 => ?_)
  have tv_12 : v_12.toInt = ix.toInt + (1 : Int) := by rw [ev_12]; exact ti_add (x := ix) (y := 1) (show -2147483648 ≤ ix.toInt + (1 : Int) by omega) (show ix.toInt + (1 : Int) < 2147483648 by omega)
  refine va_sld hx hb hX hbl hbA hS (vp_in_iff.mpr ⟨by omega, by omega⟩) dL_law_747 ?_
  refine lv_topc (y := a1) (by rw [ev_12]; exact ha1) ?_
  refine fV_i (As := [.int a1]) (rest := []) ⟨hx, hb, hml, hown, hts⟩ (c_X4_held l D cI cZ cM y0 a1 ype ytk ywi yki yse yno yrh yrw yrk yrt yrp yrq ytx yle yat yfa yby ylo yhi yac ynx yro ygl ysn yso ysp ysw ysd yik ykp Yno Yki Yby Ylo Yhi Yso Ysp Ysw _ hByO (show 0 ≤ ype.toInt ∧ ype.toInt ≤ 5 by omega) (show 0 ≤ ytk.toInt ∧ ytk.toInt ≤ 6 by omega) (show 0 ≤ ysn.toInt ∧ ysn.toInt ≤ 6 by omega)) (cwV 1 hts gL_law_X4_held rfl rfl rfl (by decide +kernel) ⟨by rw [hR]; decide, by rw [hR]; decide⟩) hK hP hD hS hA [36, 40, 38, 46, 47, 48, 51, 52, 53] [0, 1, 2, 3, 4, 5, 6, 7, 8, 9, 10, 11, 12, 13, 14, 15, 16, 17, 18, 19, 20, 21, 22, 23, 24, 25, 26, 27, 28, 29, 30, 31, 32, 33, 34, 35, 37, 39, 41, 42, 43, 44, 45, 49, 50, 54, 55] rfl rfl (by decide) (by decide +kernel) (by decide +kernel) rfl 36 rfl hl.1 rfl rfl (Nat.le_of_ble_eq_true rfl) dL_law_748 ⟨by rw [hR]; exact (show _ ≤ 600000 by omega), by rw [hR]; exact (show _ ≤ 7302250 by omega)⟩ (fun r_17 u_18 H locs hw hP hD hS => ?_)
  obtain ⟨Gno_13, Gby_14, Glo_15, Ghi_16⟩ := u_18
  obtain ⟨hP, hD⟩ := PD_subF (X' := WXY cI cZ cM x0 y0 tx le td dr nw ac fa an kp ks sp ss sy sc sd tr ia Ftx lpe ltk lho lli lki lfd lfr lto lse lhl lFho lFli lFki lFfd lFfr lFto lFse lFhl dpe dtk dho dli dki dfd dfr dto dse dhl dFho dFli dFki dFfd dFfr dFto dFse dFhl md mt mr mg mat mfd mhd mFat mFfd mFhd Fac Fkp Fsp Fss Fsy mo rd zd1_2 zt1_3 zr1_4 zg1_5 zat zfd zhd Gzat_6 Gzfd_7 Gzhd_8 Grd_9 Fia ype ytk ywi yki yse yno yrh yrw yrk yrt yrp yrq ytx yle yat yfa yby ylo yhi yac ynx yro ygl ysn yso ysp ysw ysd yik ykp Ywi Yki Yse Gno_13 Yrh Yrw Yrk Yrt Ytx Gby_14 Glo_15 Ghi_16 Yro Ygl Yso Ysp Ysw Yik Ykp) hP hD [0, 1, 2, 3, 4, 5, 6, 7, 8, 9, 10, 11, 12, 13, 14, 15, 16, 17, 18, 19, 20, 21, 22, 23, 24, 25, 26, 27, 28, 29, 30, 31, 32, 33, 34, 35, 47, 36, 49, 37, 48, 38, 39, 40, 41, 42, 50, 51, 52, 43, 44, 53, 54, 55, 45, 46] (by decide +kernel) rfl
  delta WXY at hP hD
  refine W.widen (k := c0) (n := s0) (Nat.le_refl _) (Nat.le_refl _) ?_
  have hw : ByOk Gby_14 := hw
  have hw_19 := hw
  refine lv_pop hx hb dL_law_751 rfl ?_
  refine lv_goto (tgt := 969) hx hb dL_law_752 (by decide) ?_
  refine W.widen (k := c0 + 4) (n := s0 + 27) (by omega) (by omega) ?_
  exact hNext _ _ _ (stw_intro hP hD ⟨⟨hle0, hle1⟩, ⟨hfa0, hfa1⟩, ⟨han0, han1⟩, ⟨hsc0, hsc1⟩, ⟨hlpe0, hlpe1⟩, ⟨hltk0, hltk1⟩, ⟨hmd0, hmd1⟩, ⟨hmt0, hmt1⟩, ⟨hype0, hype1⟩, ⟨hytk0, hytk1⟩, ⟨hyle0, hyle1⟩, ⟨hyac0, hyac1⟩, ⟨hynx0, hynx1⟩, ⟨hysn0, hysn1⟩, hPoA, hPoK, hMsO, hw_19, hle, hsd, hTX, hTxO, hlpt, hsct⟩) hS (lv_sub hl [0, 1, 2, 3] rfl)

set_option maxHeartbeats 1000000 in
set_option maxRecDepth 100000 in
theorem law_c23 {p : Program} {l : Launch} {e : Env} {s : State} {m : MethodId} {below : List Frame} {meth : Method} {c : Code} {b LN : Nat} {xs : Nat → Int32} {A : Nat → Prop} {args : Array Value} {R : Room} {Q : State → Prop} (hB : Lb p s m args meth c b xs A LN) (hR : R = room_1) (D : va_G) (cI cZ cM : ClassId) (hK : va_K D vwCl (ty3 cI cZ cM) s) {x0 y0 : Nat} {H : Heap} {locs : List Loc} {ls : Array Slot} {c0 s0 : Nat} (hc : c0 + 4 ≤ 600000) (hs : s0 + 27 ≤ 7302250) {ix : Int32} (hixa : 0 ≤ ix.toInt) (hixb : ix.toInt + 5 ≤ (LN : Int)) (hLN : LN ≤ 320) (hSt : StW D cI cZ cM A x0 y0 H) (hS : va_S A s.heap H locs) (hl : lv_has ls 4 [(0, .ref b), (1, .ref x0), (2, .ref y0), (3, .int ix)]) (hNext : ∀ (H : Heap) (locs : List Loc) (ls : Array Slot), StW D cI cZ cM A x0 y0 H → va_S A s.heap H locs → lv_has ls 4 [(0, .ref b), (1, .ref x0), (2, .ref y0), (3, .int ix)] → W p l e R s m args below meth c H locs (c0 + 4) (s0 + 27) Q (F0 m 969 ls [])) : W p l e R s m args below meth c H locs c0 s0 Q (F0 m 755 ls []) := by
  obtain ⟨hx, hb, hr, hml, hown, hts, hX, hbl, hlocks, hA, hAf⟩ := hB
  have hbA : ¬ A b := fun q => absurd (hAf b q) (Nat.not_le.mpr hbl)
  refine stw_elim hSt ?_
  intro tx le td dr nw ac fa an kp ks sp ss sy sc sd tr ia Ftx lpe ltk lho lli lki lfd lfr lto lse lhl lFho lFli lFki lFfd lFfr lFto lFse lFhl dpe dtk dho dli dki dfd dfr dto dse dhl dFho dFli dFki dFfd dFfr dFto dFse dFhl md mt mr mg mat mfd mhd mFat mFfd mFhd Fac Fkp Fsp Fss Fsy mo rd zd zt zr zg zat zfd zhd zFat zFfd zFhd Frd Fia ype ytk ywi yki yse yno yrh yrw yrk yrt yrp yrq ytx yle yat yfa yby ylo yhi yac ynx yro ygl ysn yso ysp ysw ysd yik ykp Ywi Yki Yse Yno Yrh Yrw Yrk Yrt Ytx Yby Ylo Yhi Yro Ygl Yso Ysp Ysw Yik Ykp L hI hP hD
  obtain ⟨⟨hle0, hle1⟩, ⟨hfa0, hfa1⟩, ⟨han0, han1⟩, ⟨hsc0, hsc1⟩, ⟨hlpe0, hlpe1⟩, ⟨hltk0, hltk1⟩, ⟨hmd0, hmd1⟩, ⟨hmt0, hmt1⟩, ⟨hype0, hype1⟩, ⟨hytk0, hytk1⟩, ⟨hyle0, hyle1⟩, ⟨hyac0, hyac1⟩, ⟨hynx0, hynx1⟩, ⟨hysn0, hysn1⟩, hPoA, hPoK, hMsO, hByO, hle, hsd, hTX, hTxO, hlpt, hsct⟩ := hI
  have hlet : le.toInt = yle.toInt := by rw [hle]
  have hTxY : TxOk Ytx := hTX ▸ hTxO
  have hFL : flt Ytx yle.toInt = flt Ftx le.toInt := by rw [hTX, hle]
  have hFL_1 : (flt Ytx yle.toInt).1 = (flt Ftx le.toInt).1 := by rw [hFL]
  have hFL_2_1 : (flt Ytx yle.toInt).2.1 = (flt Ftx le.toInt).2.1 := by rw [hFL]
  have hFL_2_2 : (flt Ytx yle.toInt).2.2 = (flt Ftx le.toInt).2.2 := by rw [hFL]
  have hsdt : sd.toInt = ysd.toInt := by rw [hsd]
  obtain ⟨a1, ha1⟩ : ∃ z : Int32, xs (ix + 1 : Int32).toNatClampNeg = z := ⟨_, rfl⟩
  obtain ⟨a2, ha2⟩ : ∃ z : Int32, xs (ix + 2 : Int32).toNatClampNeg = z := ⟨_, rfl⟩
  obtain ⟨a3, ha3⟩ : ∃ z : Int32, xs (ix + 3 : Int32).toNatClampNeg = z := ⟨_, rfl⟩
  obtain ⟨a4, ha4⟩ : ∃ z : Int32, xs (ix + 4 : Int32).toNatClampNeg = z := ⟨_, rfl⟩
  refine lv_aload_n hx hb dL_law_755 rfl (lv_at hl 1 rfl) ?_
  refine lv_aload_n hx hb dL_law_756 rfl (lv_at hl 0 rfl) ?_
  refine lv_iload_n hx hb dL_law_757 rfl (lv_at hl 3 rfl) ?_
  refine lv_iconst (v := 1) hx hb dL_law_758 (by decide) ?_
  refine lv_iadd hx hb dL_law_759 ?_
  refine lv_topi (fun v_1 ev_1 => ?_)
  have tv_1 : v_1.toInt = ix.toInt + (1 : Int) := by rw [ev_1]; exact ti_add (x := ix) (y := 1) (show -2147483648 ≤ ix.toInt + (1 : Int) by omega) (show ix.toInt + (1 : Int) < 2147483648 by omega)
  refine va_sld hx hb hX hbl hbA hS (vp_in_iff.mpr ⟨by omega, by omega⟩) dL_law_760 ?_
  refine lv_topc (y := a1) (by rw [ev_1]; exact ha1) ?_
  refine lv_aload_n hx hb dL_law_761 rfl (lv_at hl 0 rfl) ?_
  refine lv_iload_n hx hb dL_law_762 rfl (lv_at hl 3 rfl) ?_
  refine lv_iconst (v := 2) hx hb dL_law_763 (by decide) ?_
  refine lv_iadd hx hb dL_law_764 ?_
  refine lv_topi (fun v_2 ev_2 => ?_)
  have tv_2 : v_2.toInt = ix.toInt + (2 : Int) := by rw [ev_2]; exact ti_add (x := ix) (y := 2) (show -2147483648 ≤ ix.toInt + (2 : Int) by omega) (show ix.toInt + (2 : Int) < 2147483648 by omega)
  refine va_sld hx hb hX hbl hbA hS (vp_in_iff.mpr ⟨by omega, by omega⟩) dL_law_765 ?_
  refine lv_topc (y := a2) (by rw [ev_2]; exact ha2) ?_
  refine lv_aload_n hx hb dL_law_766 rfl (lv_at hl 0 rfl) ?_
  refine lv_iload_n hx hb dL_law_767 rfl (lv_at hl 3 rfl) ?_
  refine lv_iconst (v := 3) hx hb dL_law_768 (by decide) ?_
  refine lv_iadd hx hb dL_law_769 ?_
  refine lv_topi (fun v_3 ev_3 => ?_)
  have tv_3 : v_3.toInt = ix.toInt + (3 : Int) := by rw [ev_3]; exact ti_add (x := ix) (y := 3) (show -2147483648 ≤ ix.toInt + (3 : Int) by omega) (show ix.toInt + (3 : Int) < 2147483648 by omega)
  refine va_sld hx hb hX hbl hbA hS (vp_in_iff.mpr ⟨by omega, by omega⟩) dL_law_770 ?_
  refine lv_topc (y := a3) (by rw [ev_3]; exact ha3) ?_
  refine lv_aload_n hx hb dL_law_771 rfl (lv_at hl 0 rfl) ?_
  refine lv_iload_n hx hb dL_law_772 rfl (lv_at hl 3 rfl) ?_
  refine lv_iconst (v := 4) hx hb dL_law_773 (by decide) ?_
  refine lv_iadd hx hb dL_law_774 ?_
  refine lv_topi (fun v_4 ev_4 => ?_)
  have tv_4 : v_4.toInt = ix.toInt + (4 : Int) := by rw [ev_4]; exact ti_add (x := ix) (y := 4) (show -2147483648 ≤ ix.toInt + (4 : Int) by omega) (show ix.toInt + (4 : Int) < 2147483648 by omega)
  refine va_sld hx hb hX hbl hbA hS (vp_in_iff.mpr ⟨by omega, by omega⟩) dL_law_775 ?_
  refine lv_topc (y := a4) (by rw [ev_4]; exact ha4) ?_
  refine lv_if_eq (tgt := 783) hx hb dL_law_776 (by decide) (fun c_5 => ?_) (fun c_5 => ?_)
  · have tc_5 := b_eq rfl (show (0 : Int32).toInt = 0 by decide) c_5
    refine lv_iconst (v := 0) hx hb dL_law_783 (by decide) ?_
    refine fV_i (As := [.int a1, .int a2, .int a3, .int 0]) (rest := []) ⟨hx, hb, hml, hown, hts⟩ (c_X3_losses l D cI cZ cM x0 a1 a2 a3 0 tx le td dr nw ac fa an kp ks sp ss sy sc sd tr ia lpe ltk lho lli lki lfd lfr lto lse lhl lFto lFfr lFki md mt mr mg mat mfd mhd mFat mFfd mFhd mo rd zd zt zr zg zat zfd zhd zFat zFfd zFhd Frd _ (show 0 ≤ md.toInt ∧ md.toInt ≤ 10 by omega) (show 0 ≤ mt.toInt ∧ mt.toInt ≤ 6 by omega) (show 0 ≤ lpe.toInt ∧ lpe.toInt ≤ 5 by omega)) (cwV 4 hts gL_law_X3_losses rfl rfl rfl (by decide +kernel) ⟨by rw [hR]; decide, by rw [hR]; decide⟩) hK hP hD hS hA [0, 2, 8, 7, 5, 20, 21, 22, 23, 29, 30, 31, 32, 33, 34] [1, 3, 4, 6, 9, 10, 11, 12, 13, 14, 15, 16, 17, 18, 19, 24, 25, 26, 27, 28, 35, 36, 37, 38, 39, 40, 41, 42, 43, 44, 45, 46, 47, 48, 49, 50, 51, 52, 53, 54, 55] rfl rfl (by decide +kernel) (by decide +kernel) (by decide +kernel) rfl 0 rfl hl.1 rfl rfl (Nat.le_of_ble_eq_true rfl) dL_law_784 ⟨by rw [hR]; exact (show _ ≤ 600000 by omega), by rw [hR]; exact (show _ ≤ 7302250 by omega)⟩ (fun r_14 u_15 H locs hw hP hD hS => ?_)
    obtain ⟨zd1_6, zt1_7, zr1_8, zg1_9, Gzat_10, Gzfd_11, Gzhd_12, Grd_13⟩ := u_15
    obtain ⟨hP, hD⟩ := PD_subF (X' := WXY cI cZ cM x0 y0 tx le td dr nw ac fa an kp ks sp ss sy sc sd tr ia Ftx lpe ltk lho lli lki lfd lfr lto lse lhl lFho lFli lFki lFfd lFfr lFto lFse lFhl dpe dtk dho dli dki dfd dfr dto dse dhl dFho dFli dFki dFfd dFfr dFto dFse dFhl md mt mr mg mat mfd mhd mFat mFfd mFhd Fac Fkp Fsp Fss Fsy mo rd zd1_6 zt1_7 zr1_8 zg1_9 zat zfd zhd Gzat_10 Gzfd_11 Gzhd_12 Grd_13 Fia ype ytk ywi yki yse yno yrh yrw yrk yrt yrp yrq ytx yle yat yfa yby ylo yhi yac ynx yro ygl ysn yso ysp ysw ysd yik ykp Ywi Yki Yse Yno Yrh Yrw Yrk Yrt Ytx Yby Ylo Yhi Yro Ygl Yso Ysp Ysw Yik Ykp) hP hD [41, 0, 42, 1, 2, 45, 3, 44, 43, 4, 5, 6, 7, 8, 9, 10, 11, 12, 13, 14, 46, 47, 48, 49, 15, 16, 17, 18, 19, 50, 51, 52, 53, 54, 55, 20, 21, 22, 23, 24, 25, 26, 27, 28, 29, 30, 31, 32, 33, 34, 35, 36, 37, 38, 39, 40] (by decide +kernel) rfl
    delta WXY at hP hD
    refine W.widen (k := c0) (n := s0) (Nat.le_refl _) (Nat.le_refl _) ?_
    refine lv_pop hx hb dL_law_787 rfl ?_
    refine lv_aload_n hx hb dL_law_788 rfl (lv_at hl 2 rfl) ?_
    refine lv_aload_n hx hb dL_law_789 rfl (lv_at hl 0 rfl) ?_
    refine lv_iload_n hx hb dL_law_790 rfl (lv_at hl 3 rfl) ?_
    refine lv_iconst (v := 1) hx hb dL_law_791 (by decide) ?_
    refine lv_iadd hx hb dL_law_792 ?_
    refine lv_topi (fun v_16 ev_16 => ?_)
    have tv_16 : v_16.toInt = ix.toInt + (1 : Int) := by rw [ev_16]; exact ti_add (x := ix) (y := 1) (show -2147483648 ≤ ix.toInt + (1 : Int) by omega) (show ix.toInt + (1 : Int) < 2147483648 by omega)
    refine va_sld hx hb hX hbl hbA hS (vp_in_iff.mpr ⟨by omega, by omega⟩) dL_law_793 ?_
    refine lv_topc (y := a1) (by rw [ev_16]; exact ha1) ?_
    refine lv_aload_n hx hb dL_law_794 rfl (lv_at hl 0 rfl) ?_
    refine lv_iload_n hx hb dL_law_795 rfl (lv_at hl 3 rfl) ?_
    refine lv_iconst (v := 2) hx hb dL_law_796 (by decide) ?_
    refine lv_iadd hx hb dL_law_797 ?_
    refine lv_topi (fun v_17 ev_17 => ?_)
    have tv_17 : v_17.toInt = ix.toInt + (2 : Int) := by rw [ev_17]; exact ti_add (x := ix) (y := 2) (show -2147483648 ≤ ix.toInt + (2 : Int) by omega) (show ix.toInt + (2 : Int) < 2147483648 by omega)
    refine va_sld hx hb hX hbl hbA hS (vp_in_iff.mpr ⟨by omega, by omega⟩) dL_law_798 ?_
    refine lv_topc (y := a2) (by rw [ev_17]; exact ha2) ?_
    refine lv_aload_n hx hb dL_law_799 rfl (lv_at hl 0 rfl) ?_
    refine lv_iload_n hx hb dL_law_800 rfl (lv_at hl 3 rfl) ?_
    refine lv_iconst (v := 3) hx hb dL_law_801 (by decide) ?_
    refine lv_iadd hx hb dL_law_802 ?_
    refine lv_topi (fun v_18 ev_18 => ?_)
    have tv_18 : v_18.toInt = ix.toInt + (3 : Int) := by rw [ev_18]; exact ti_add (x := ix) (y := 3) (show -2147483648 ≤ ix.toInt + (3 : Int) by omega) (show ix.toInt + (3 : Int) < 2147483648 by omega)
    refine va_sld hx hb hX hbl hbA hS (vp_in_iff.mpr ⟨by omega, by omega⟩) dL_law_803 ?_
    refine lv_topc (y := a3) (by rw [ev_18]; exact ha3) ?_
    refine lv_aload_n hx hb dL_law_804 rfl (lv_at hl 0 rfl) ?_
    refine lv_iload_n hx hb dL_law_805 rfl (lv_at hl 3 rfl) ?_
    refine lv_iconst (v := 4) hx hb dL_law_806 (by decide) ?_
    refine lv_iadd hx hb dL_law_807 ?_
    refine lv_topi (fun v_19 ev_19 => ?_)
    have tv_19 : v_19.toInt = ix.toInt + (4 : Int) := by rw [ev_19]; exact ti_add (x := ix) (y := 4) (show -2147483648 ≤ ix.toInt + (4 : Int) by omega) (show ix.toInt + (4 : Int) < 2147483648 by omega)
    refine va_sld hx hb hX hbl hbA hS (vp_in_iff.mpr ⟨by omega, by omega⟩) dL_law_808 ?_
    refine lv_topc (y := a4) (by rw [ev_19]; exact ha4) ?_
    refine lv_if_eq (tgt := 816) hx hb dL_law_809 (by decide) (fun c_20 => ?_) (fun c_20 => ?_)
    · have tc_20 := b_eq rfl (show (0 : Int32).toInt = 0 by decide) c_20
      refine lv_iconst (v := 0) hx hb dL_law_816 (by decide) ?_
      refine fV_i (As := [.int a1, .int a2, .int a3, .int 0]) (rest := []) ⟨hx, hb, hml, hown, hts⟩ (c_X4_losses l D cI cZ cM y0 a1 a2 a3 0 ype ytk ywi yki yse yno yrh yrw yrk yrt yrp yrq ytx yle yat yfa yby ylo yhi yac ynx yro ygl ysn yso ysp ysw ysd yik ykp Yno Yki Yby Ylo Yhi Ywi _ hByO (show 0 ≤ ype.toInt ∧ ype.toInt ≤ 5 by omega) (show 0 ≤ ytk.toInt ∧ ytk.toInt ≤ 6 by omega)) (cwV 4 hts gL_law_X4_losses rfl rfl rfl (by decide +kernel) ⟨by rw [hR]; decide, by rw [hR]; decide⟩) hK hP hD hS hA [36, 40, 38, 46, 47, 48, 37] [0, 1, 2, 3, 4, 5, 6, 7, 8, 9, 10, 11, 12, 13, 14, 15, 16, 17, 18, 19, 20, 21, 22, 23, 24, 25, 26, 27, 28, 29, 30, 31, 32, 33, 34, 35, 39, 41, 42, 43, 44, 45, 49, 50, 51, 52, 53, 54, 55] rfl rfl (by decide) (by decide +kernel) (by decide +kernel) rfl 36 rfl hl.1 rfl rfl (Nat.le_of_ble_eq_true rfl) dL_law_817 ⟨by rw [hR]; exact (show _ ≤ 600000 by omega), by rw [hR]; exact (show _ ≤ 7302250 by omega)⟩ (fun r_25 u_26 H locs hw hP hD hS => ?_)
      obtain ⟨Gno_21, Gby_22, Glo_23, Ghi_24⟩ := u_26
      obtain ⟨hP, hD⟩ := PD_subF (X' := WXY cI cZ cM x0 y0 tx le td dr nw ac fa an kp ks sp ss sy sc sd tr ia Ftx lpe ltk lho lli lki lfd lfr lto lse lhl lFho lFli lFki lFfd lFfr lFto lFse lFhl dpe dtk dho dli dki dfd dfr dto dse dhl dFho dFli dFki dFfd dFfr dFto dFse dFhl md mt mr mg mat mfd mhd mFat mFfd mFhd Fac Fkp Fsp Fss Fsy mo rd zd1_6 zt1_7 zr1_8 zg1_9 zat zfd zhd Gzat_10 Gzfd_11 Gzhd_12 Grd_13 Fia ype ytk ywi yki yse yno yrh yrw yrk yrt yrp yrq ytx yle yat yfa yby ylo yhi yac ynx yro ygl ysn yso ysp ysw ysd yik ykp Ywi Yki Yse Gno_21 Yrh Yrw Yrk Yrt Ytx Gby_22 Glo_23 Ghi_24 Yro Ygl Yso Ysp Ysw Yik Ykp) hP hD [0, 1, 2, 3, 4, 5, 6, 7, 8, 9, 10, 11, 12, 13, 14, 15, 16, 17, 18, 19, 20, 21, 22, 23, 24, 25, 26, 27, 28, 29, 30, 31, 32, 33, 34, 35, 49, 55, 51, 36, 50, 37, 38, 39, 40, 41, 52, 53, 54, 42, 43, 44, 45, 46, 47, 48] (by decide +kernel) rfl
      delta WXY at hP hD
      refine W.widen (k := c0) (n := s0) (Nat.le_refl _) (Nat.le_refl _) ?_
      have hw : ByOk Gby_22 := hw
      have hw_27 := hw
      refine lv_pop hx hb dL_law_820 rfl ?_
      refine lv_goto (tgt := 969) hx hb dL_law_821 (by decide) ?_
      refine W.widen (k := c0 + 4) (n := s0 + 27) (by omega) (by omega) ?_
      exact hNext _ _ _ (stw_intro hP hD ⟨⟨hle0, hle1⟩, ⟨hfa0, hfa1⟩, ⟨han0, han1⟩, ⟨hsc0, hsc1⟩, ⟨hlpe0, hlpe1⟩, ⟨hltk0, hltk1⟩, ⟨hmd0, hmd1⟩, ⟨hmt0, hmt1⟩, ⟨hype0, hype1⟩, ⟨hytk0, hytk1⟩, ⟨hyle0, hyle1⟩, ⟨hyac0, hyac1⟩, ⟨hynx0, hynx1⟩, ⟨hysn0, hysn1⟩, hPoA, hPoK, hMsO, hw_27, hle, hsd, hTX, hTxO, hlpt, hsct⟩) hS (lv_sub hl [0, 1, 2, 3] rfl)
    · have tc_20 := b_ne rfl (show (0 : Int32).toInt = 0 by decide) c_20
      exfalso; omega
  · have tc_5 := b_ne rfl (show (0 : Int32).toInt = 0 by decide) c_5
    refine lv_iconst (v := 1) hx hb dL_law_779 (by decide) ?_
    refine lv_goto (tgt := 784) hx hb dL_law_780 (by decide) ?_
    refine fV_i (As := [.int a1, .int a2, .int a3, .int 1]) (rest := []) ⟨hx, hb, hml, hown, hts⟩ (c_X3_losses l D cI cZ cM x0 a1 a2 a3 1 tx le td dr nw ac fa an kp ks sp ss sy sc sd tr ia lpe ltk lho lli lki lfd lfr lto lse lhl lFto lFfr lFki md mt mr mg mat mfd mhd mFat mFfd mFhd mo rd zd zt zr zg zat zfd zhd zFat zFfd zFhd Frd _ (show 0 ≤ md.toInt ∧ md.toInt ≤ 10 by omega) (show 0 ≤ mt.toInt ∧ mt.toInt ≤ 6 by omega) (show 0 ≤ lpe.toInt ∧ lpe.toInt ≤ 5 by omega)) (cwV 4 hts gL_law_X3_losses rfl rfl rfl (by decide +kernel) ⟨by rw [hR]; decide, by rw [hR]; decide⟩) hK hP hD hS hA [0, 2, 8, 7, 5, 20, 21, 22, 23, 29, 30, 31, 32, 33, 34] [1, 3, 4, 6, 9, 10, 11, 12, 13, 14, 15, 16, 17, 18, 19, 24, 25, 26, 27, 28, 35, 36, 37, 38, 39, 40, 41, 42, 43, 44, 45, 46, 47, 48, 49, 50, 51, 52, 53, 54, 55] rfl rfl (by decide +kernel) (by decide +kernel) (by decide +kernel) rfl 0 rfl hl.1 rfl rfl (Nat.le_of_ble_eq_true rfl) dL_law_784 ⟨by rw [hR]; exact (show _ ≤ 600000 by omega), by rw [hR]; exact (show _ ≤ 7302250 by omega)⟩ (fun r_36 u_37 H locs hw hP hD hS => ?_)
    obtain ⟨zd1_28, zt1_29, zr1_30, zg1_31, Gzat_32, Gzfd_33, Gzhd_34, Grd_35⟩ := u_37
    obtain ⟨hP, hD⟩ := PD_subF (X' := WXY cI cZ cM x0 y0 tx le td dr nw ac fa an kp ks sp ss sy sc sd tr ia Ftx lpe ltk lho lli lki lfd lfr lto lse lhl lFho lFli lFki lFfd lFfr lFto lFse lFhl dpe dtk dho dli dki dfd dfr dto dse dhl dFho dFli dFki dFfd dFfr dFto dFse dFhl md mt mr mg mat mfd mhd mFat mFfd mFhd Fac Fkp Fsp Fss Fsy mo rd zd1_28 zt1_29 zr1_30 zg1_31 zat zfd zhd Gzat_32 Gzfd_33 Gzhd_34 Grd_35 Fia ype ytk ywi yki yse yno yrh yrw yrk yrt yrp yrq ytx yle yat yfa yby ylo yhi yac ynx yro ygl ysn yso ysp ysw ysd yik ykp Ywi Yki Yse Yno Yrh Yrw Yrk Yrt Ytx Yby Ylo Yhi Yro Ygl Yso Ysp Ysw Yik Ykp) hP hD [41, 0, 42, 1, 2, 45, 3, 44, 43, 4, 5, 6, 7, 8, 9, 10, 11, 12, 13, 14, 46, 47, 48, 49, 15, 16, 17, 18, 19, 50, 51, 52, 53, 54, 55, 20, 21, 22, 23, 24, 25, 26, 27, 28, 29, 30, 31, 32, 33, 34, 35, 36, 37, 38, 39, 40] (by decide +kernel) rfl
    delta WXY at hP hD
    refine W.widen (k := c0) (n := s0) (Nat.le_refl _) (Nat.le_refl _) ?_
    refine lv_pop hx hb dL_law_787 rfl ?_
    refine lv_aload_n hx hb dL_law_788 rfl (lv_at hl 2 rfl) ?_
    refine lv_aload_n hx hb dL_law_789 rfl (lv_at hl 0 rfl) ?_
    refine lv_iload_n hx hb dL_law_790 rfl (lv_at hl 3 rfl) ?_
    refine lv_iconst (v := 1) hx hb dL_law_791 (by decide) ?_
    refine lv_iadd hx hb dL_law_792 ?_
    refine lv_topi (fun v_38 ev_38 => ?_)
    have tv_38 : v_38.toInt = ix.toInt + (1 : Int) := by rw [ev_38]; exact ti_add (x := ix) (y := 1) (show -2147483648 ≤ ix.toInt + (1 : Int) by omega) (show ix.toInt + (1 : Int) < 2147483648 by omega)
    refine va_sld hx hb hX hbl hbA hS (vp_in_iff.mpr ⟨by omega, by omega⟩) dL_law_793 ?_
    refine lv_topc (y := a1) (by rw [ev_38]; exact ha1) ?_
    refine lv_aload_n hx hb dL_law_794 rfl (lv_at hl 0 rfl) ?_
    refine lv_iload_n hx hb dL_law_795 rfl (lv_at hl 3 rfl) ?_
    refine lv_iconst (v := 2) hx hb dL_law_796 (by decide) ?_
    refine lv_iadd hx hb dL_law_797 ?_
    refine lv_topi (fun v_39 ev_39 => ?_)
    have tv_39 : v_39.toInt = ix.toInt + (2 : Int) := by rw [ev_39]; exact ti_add (x := ix) (y := 2) (show -2147483648 ≤ ix.toInt + (2 : Int) by omega) (show ix.toInt + (2 : Int) < 2147483648 by omega)
    refine va_sld hx hb hX hbl hbA hS (vp_in_iff.mpr ⟨by omega, by omega⟩) dL_law_798 ?_
    refine lv_topc (y := a2) (by rw [ev_39]; exact ha2) ?_
    refine lv_aload_n hx hb dL_law_799 rfl (lv_at hl 0 rfl) ?_
    refine lv_iload_n hx hb dL_law_800 rfl (lv_at hl 3 rfl) ?_
    refine lv_iconst (v := 3) hx hb dL_law_801 (by decide) ?_
    refine lv_iadd hx hb dL_law_802 ?_
    refine lv_topi (fun v_40 ev_40 => ?_)
    have tv_40 : v_40.toInt = ix.toInt + (3 : Int) := by rw [ev_40]; exact ti_add (x := ix) (y := 3) (show -2147483648 ≤ ix.toInt + (3 : Int) by omega) (show ix.toInt + (3 : Int) < 2147483648 by omega)
    refine va_sld hx hb hX hbl hbA hS (vp_in_iff.mpr ⟨by omega, by omega⟩) dL_law_803 ?_
    refine lv_topc (y := a3) (by rw [ev_40]; exact ha3) ?_
    refine lv_aload_n hx hb dL_law_804 rfl (lv_at hl 0 rfl) ?_
    refine lv_iload_n hx hb dL_law_805 rfl (lv_at hl 3 rfl) ?_
    refine lv_iconst (v := 4) hx hb dL_law_806 (by decide) ?_
    refine lv_iadd hx hb dL_law_807 ?_
    refine lv_topi (fun v_41 ev_41 => ?_)
    have tv_41 : v_41.toInt = ix.toInt + (4 : Int) := by rw [ev_41]; exact ti_add (x := ix) (y := 4) (show -2147483648 ≤ ix.toInt + (4 : Int) by omega) (show ix.toInt + (4 : Int) < 2147483648 by omega)
    refine va_sld hx hb hX hbl hbA hS (vp_in_iff.mpr ⟨by omega, by omega⟩) dL_law_808 ?_
    refine lv_topc (y := a4) (by rw [ev_41]; exact ha4) ?_
    refine lv_if_eq (tgt := 816) hx hb dL_law_809 (by decide) (fun c_42 => ?_) (fun c_42 => ?_)
    · have tc_42 := b_eq rfl (show (0 : Int32).toInt = 0 by decide) c_42
      exfalso; omega
    · have tc_42 := b_ne rfl (show (0 : Int32).toInt = 0 by decide) c_42
      refine lv_iconst (v := 1) hx hb dL_law_812 (by decide) ?_
      refine lv_goto (tgt := 817) hx hb dL_law_813 (by decide) ?_
      refine fV_i (As := [.int a1, .int a2, .int a3, .int 1]) (rest := []) ⟨hx, hb, hml, hown, hts⟩ (c_X4_losses l D cI cZ cM y0 a1 a2 a3 1 ype ytk ywi yki yse yno yrh yrw yrk yrt yrp yrq ytx yle yat yfa yby ylo yhi yac ynx yro ygl ysn yso ysp ysw ysd yik ykp Yno Yki Yby Ylo Yhi Ywi _ hByO (show 0 ≤ ype.toInt ∧ ype.toInt ≤ 5 by omega) (show 0 ≤ ytk.toInt ∧ ytk.toInt ≤ 6 by omega)) (cwV 4 hts gL_law_X4_losses rfl rfl rfl (by decide +kernel) ⟨by rw [hR]; decide, by rw [hR]; decide⟩) hK hP hD hS hA [36, 40, 38, 46, 47, 48, 37] [0, 1, 2, 3, 4, 5, 6, 7, 8, 9, 10, 11, 12, 13, 14, 15, 16, 17, 18, 19, 20, 21, 22, 23, 24, 25, 26, 27, 28, 29, 30, 31, 32, 33, 34, 35, 39, 41, 42, 43, 44, 45, 49, 50, 51, 52, 53, 54, 55] rfl rfl (by decide) (by decide +kernel) (by decide +kernel) rfl 36 rfl hl.1 rfl rfl (Nat.le_of_ble_eq_true rfl) dL_law_817 ⟨by rw [hR]; exact (show _ ≤ 600000 by omega), by rw [hR]; exact (show _ ≤ 7302250 by omega)⟩ (fun r_47 u_48 H locs hw hP hD hS => ?_)
      obtain ⟨Gno_43, Gby_44, Glo_45, Ghi_46⟩ := u_48
      obtain ⟨hP, hD⟩ := PD_subF (X' := WXY cI cZ cM x0 y0 tx le td dr nw ac fa an kp ks sp ss sy sc sd tr ia Ftx lpe ltk lho lli lki lfd lfr lto lse lhl lFho lFli lFki lFfd lFfr lFto lFse lFhl dpe dtk dho dli dki dfd dfr dto dse dhl dFho dFli dFki dFfd dFfr dFto dFse dFhl md mt mr mg mat mfd mhd mFat mFfd mFhd Fac Fkp Fsp Fss Fsy mo rd zd1_28 zt1_29 zr1_30 zg1_31 zat zfd zhd Gzat_32 Gzfd_33 Gzhd_34 Grd_35 Fia ype ytk ywi yki yse yno yrh yrw yrk yrt yrp yrq ytx yle yat yfa yby ylo yhi yac ynx yro ygl ysn yso ysp ysw ysd yik ykp Ywi Yki Yse Gno_43 Yrh Yrw Yrk Yrt Ytx Gby_44 Glo_45 Ghi_46 Yro Ygl Yso Ysp Ysw Yik Ykp) hP hD [0, 1, 2, 3, 4, 5, 6, 7, 8, 9, 10, 11, 12, 13, 14, 15, 16, 17, 18, 19, 20, 21, 22, 23, 24, 25, 26, 27, 28, 29, 30, 31, 32, 33, 34, 35, 49, 55, 51, 36, 50, 37, 38, 39, 40, 41, 52, 53, 54, 42, 43, 44, 45, 46, 47, 48] (by decide +kernel) rfl
      delta WXY at hP hD
      refine W.widen (k := c0) (n := s0) (Nat.le_refl _) (Nat.le_refl _) ?_
      have hw : ByOk Gby_44 := hw
      have hw_49 := hw
      refine lv_pop hx hb dL_law_820 rfl ?_
      refine lv_goto (tgt := 969) hx hb dL_law_821 (by decide) ?_
      refine W.widen (k := c0 + 4) (n := s0 + 27) (by omega) (by omega) ?_
      exact hNext _ _ _ (stw_intro hP hD ⟨⟨hle0, hle1⟩, ⟨hfa0, hfa1⟩, ⟨han0, han1⟩, ⟨hsc0, hsc1⟩, ⟨hlpe0, hlpe1⟩, ⟨hltk0, hltk1⟩, ⟨hmd0, hmd1⟩, ⟨hmt0, hmt1⟩, ⟨hype0, hype1⟩, ⟨hytk0, hytk1⟩, ⟨hyle0, hyle1⟩, ⟨hyac0, hyac1⟩, ⟨hynx0, hynx1⟩, ⟨hysn0, hysn1⟩, hPoA, hPoK, hMsO, hw_49, hle, hsd, hTX, hTxO, hlpt, hsct⟩) hS (lv_sub hl [0, 1, 2, 3] rfl)

set_option maxHeartbeats 1000000 in
set_option maxRecDepth 100000 in
theorem law_c24 {p : Program} {l : Launch} {e : Env} {s : State} {m : MethodId} {below : List Frame} {meth : Method} {c : Code} {b LN : Nat} {xs : Nat → Int32} {A : Nat → Prop} {args : Array Value} {R : Room} {Q : State → Prop} (hB : Lb p s m args meth c b xs A LN) (hR : R = room_1) (D : va_G) (cI cZ cM : ClassId) (hK : va_K D vwCl (ty3 cI cZ cM) s) {x0 y0 : Nat} {H : Heap} {locs : List Loc} {ls : Array Slot} {c0 s0 : Nat} (hc : c0 + 4 ≤ 600000) (hs : s0 + 27 ≤ 7302250) {ix : Int32} (hixa : 0 ≤ ix.toInt) (hixb : ix.toInt + 5 ≤ (LN : Int)) (hLN : LN ≤ 320) (hSt : StW D cI cZ cM A x0 y0 H) (hS : va_S A s.heap H locs) (hl : lv_has ls 4 [(0, .ref b), (1, .ref x0), (2, .ref y0), (3, .int ix)]) (hNext : ∀ (H : Heap) (locs : List Loc) (ls : Array Slot), StW D cI cZ cM A x0 y0 H → va_S A s.heap H locs → lv_has ls 4 [(0, .ref b), (1, .ref x0), (2, .ref y0), (3, .int ix)] → W p l e R s m args below meth c H locs (c0 + 4) (s0 + 27) Q (F0 m 969 ls [])) : W p l e R s m args below meth c H locs c0 s0 Q (F0 m 824 ls []) := by
  obtain ⟨hx, hb, hr, hml, hown, hts, hX, hbl, hlocks, hA, hAf⟩ := hB
  have hbA : ¬ A b := fun q => absurd (hAf b q) (Nat.not_le.mpr hbl)
  refine stw_elim hSt ?_
  intro tx le td dr nw ac fa an kp ks sp ss sy sc sd tr ia Ftx lpe ltk lho lli lki lfd lfr lto lse lhl lFho lFli lFki lFfd lFfr lFto lFse lFhl dpe dtk dho dli dki dfd dfr dto dse dhl dFho dFli dFki dFfd dFfr dFto dFse dFhl md mt mr mg mat mfd mhd mFat mFfd mFhd Fac Fkp Fsp Fss Fsy mo rd zd zt zr zg zat zfd zhd zFat zFfd zFhd Frd Fia ype ytk ywi yki yse yno yrh yrw yrk yrt yrp yrq ytx yle yat yfa yby ylo yhi yac ynx yro ygl ysn yso ysp ysw ysd yik ykp Ywi Yki Yse Yno Yrh Yrw Yrk Yrt Ytx Yby Ylo Yhi Yro Ygl Yso Ysp Ysw Yik Ykp L hI hP hD
  obtain ⟨⟨hle0, hle1⟩, ⟨hfa0, hfa1⟩, ⟨han0, han1⟩, ⟨hsc0, hsc1⟩, ⟨hlpe0, hlpe1⟩, ⟨hltk0, hltk1⟩, ⟨hmd0, hmd1⟩, ⟨hmt0, hmt1⟩, ⟨hype0, hype1⟩, ⟨hytk0, hytk1⟩, ⟨hyle0, hyle1⟩, ⟨hyac0, hyac1⟩, ⟨hynx0, hynx1⟩, ⟨hysn0, hysn1⟩, hPoA, hPoK, hMsO, hByO, hle, hsd, hTX, hTxO, hlpt, hsct⟩ := hI
  have hlet : le.toInt = yle.toInt := by rw [hle]
  have hTxY : TxOk Ytx := hTX ▸ hTxO
  have hFL : flt Ytx yle.toInt = flt Ftx le.toInt := by rw [hTX, hle]
  have hFL_1 : (flt Ytx yle.toInt).1 = (flt Ftx le.toInt).1 := by rw [hFL]
  have hFL_2_1 : (flt Ytx yle.toInt).2.1 = (flt Ftx le.toInt).2.1 := by rw [hFL]
  have hFL_2_2 : (flt Ytx yle.toInt).2.2 = (flt Ftx le.toInt).2.2 := by rw [hFL]
  have hsdt : sd.toInt = ysd.toInt := by rw [hsd]
  obtain ⟨a1, ha1⟩ : ∃ z : Int32, xs (ix + 1 : Int32).toNatClampNeg = z := ⟨_, rfl⟩
  obtain ⟨a2, ha2⟩ : ∃ z : Int32, xs (ix + 2 : Int32).toNatClampNeg = z := ⟨_, rfl⟩
  obtain ⟨a3, ha3⟩ : ∃ z : Int32, xs (ix + 3 : Int32).toNatClampNeg = z := ⟨_, rfl⟩
  obtain ⟨a4, ha4⟩ : ∃ z : Int32, xs (ix + 4 : Int32).toNatClampNeg = z := ⟨_, rfl⟩
  refine lv_aload_n hx hb dL_law_824 rfl (lv_at hl 1 rfl) ?_
  refine lv_aload_n hx hb dL_law_825 rfl (lv_at hl 0 rfl) ?_
  refine lv_iload_n hx hb dL_law_826 rfl (lv_at hl 3 rfl) ?_
  refine lv_iconst (v := 1) hx hb dL_law_827 (by decide) ?_
  refine lv_iadd hx hb dL_law_828 ?_
  refine lv_topi (fun v_1 ev_1 => ?_)
  have tv_1 : v_1.toInt = ix.toInt + (1 : Int) := by rw [ev_1]; exact ti_add (x := ix) (y := 1) (show -2147483648 ≤ ix.toInt + (1 : Int) by omega) (show ix.toInt + (1 : Int) < 2147483648 by omega)
  refine va_sld hx hb hX hbl hbA hS (vp_in_iff.mpr ⟨by omega, by omega⟩) dL_law_829 ?_
  refine lv_topc (y := a1) (by rw [ev_1]; exact ha1) ?_
  obtain ⟨w_2, ew_2⟩ : ∃ z : Int64, a1.toInt64 = z := ⟨_, rfl⟩
  have tw_2 : w_2.toInt = a1.toInt := by rw [← ew_2, Int32.toInt_toInt64]
  refine lv_i2l hx hb dL_law_830 ew_2 ?_
  refine lv_bipush (v := 32) hx hb dL_law_831 (by decide) ?_
  obtain ⟨w_3, ew_3⟩ : ∃ z : Int64, (w_2 <<< ((32 : Int32).toInt64 &&& 63)) = z := ⟨_, rfl⟩
  refine lv_lshl hx hb dL_law_833 ew_3 ?_
  refine lv_aload_n hx hb dL_law_834 rfl (lv_at hl 0 rfl) ?_
  refine lv_iload_n hx hb dL_law_835 rfl (lv_at hl 3 rfl) ?_
  refine lv_iconst (v := 2) hx hb dL_law_836 (by decide) ?_
  refine lv_iadd hx hb dL_law_837 ?_
  refine lv_topi (fun v_4 ev_4 => ?_)
  have tv_4 : v_4.toInt = ix.toInt + (2 : Int) := by rw [ev_4]; exact ti_add (x := ix) (y := 2) (show -2147483648 ≤ ix.toInt + (2 : Int) by omega) (show ix.toInt + (2 : Int) < 2147483648 by omega)
  refine va_sld hx hb hX hbl hbA hS (vp_in_iff.mpr ⟨by omega, by omega⟩) dL_law_838 ?_
  refine lv_topc (y := a2) (by rw [ev_4]; exact ha2) ?_
  obtain ⟨w_5, ew_5⟩ : ∃ z : Int64, a2.toInt64 = z := ⟨_, rfl⟩
  have tw_5 : w_5.toInt = a2.toInt := by rw [← ew_5, Int32.toInt_toInt64]
  refine lv_i2l hx hb dL_law_839 ew_5 ?_
  refine lv_ldc2 (v := (4294967295)) hx hb hown (hts (.constantLong RL 116 (4294967295)) (List.mem_of_getElem? (i := 6) rfl)) dL_law_840 ?_
  refine lv_land hx hb dL_law_843 ?_
  refine lv_topl (fun w_6 ew_6 => ?_)
  refine lv_lor hx hb dL_law_844 ?_
  refine lv_topl (fun w_7 ew_7 => ?_)
  refine fV_l (As := [.long w_7]) (rest := []) ⟨hx, hb, hml, hown, hts⟩ (c_X3_seed l D cI cZ cM x0 w_7 tx le td dr nw ac fa an kp ks sp ss sy sc sd tr ia _ ) (cwV 1 hts gL_law_X3_seed rfl rfl rfl (by decide +kernel) ⟨by rw [hR]; decide, by rw [hR]; decide⟩) hK hP hD hS hA [0] [1, 2, 3, 4, 5, 6, 7, 8, 9, 10, 11, 12, 13, 14, 15, 16, 17, 18, 19, 20, 21, 22, 23, 24, 25, 26, 27, 28, 29, 30, 31, 32, 33, 34, 35, 36, 37, 38, 39, 40, 41, 42, 43, 44, 45, 46, 47, 48, 49, 50, 51, 52, 53, 54, 55] rfl rfl (by decide) (by decide +kernel) (by decide +kernel) rfl 0 rfl hl.1 rfl rfl (Nat.le_of_ble_eq_true rfl) dL_law_845 ⟨by rw [hR]; exact (show _ ≤ 600000 by omega), by rw [hR]; exact (show _ ≤ 7302250 by omega)⟩ (fun r_8 u_9 H locs hw hP hD hS => ?_)
  obtain ⟨hP, hD⟩ := PD_subF (X' := WXY cI cZ cM x0 y0 tx le td dr nw ac fa an kp ks sp ss sy sc w_7 tr ia Ftx lpe ltk lho lli lki lfd lfr lto lse lhl lFho lFli lFki lFfd lFfr lFto lFse lFhl dpe dtk dho dli dki dfd dfr dto dse dhl dFho dFli dFki dFfd dFfr dFto dFse dFhl md mt mr mg mat mfd mhd mFat mFfd mFhd Fac Fkp Fsp Fss Fsy mo rd zd zt zr zg zat zfd zhd zFat zFfd zFhd Frd Fia ype ytk ywi yki yse yno yrh yrw yrk yrt yrp yrq ytx yle yat yfa yby ylo yhi yac ynx yro ygl ysn yso ysp ysw ysd yik ykp Ywi Yki Yse Yno Yrh Yrw Yrk Yrt Ytx Yby Ylo Yhi Yro Ygl Yso Ysp Ysw Yik Ykp) hP hD [55, 0, 1, 2, 3, 4, 5, 6, 7, 8, 9, 10, 11, 12, 13, 14, 15, 16, 17, 18, 19, 20, 21, 22, 23, 24, 25, 26, 27, 28, 29, 30, 31, 32, 33, 34, 35, 36, 37, 38, 39, 40, 41, 42, 43, 44, 45, 46, 47, 48, 49, 50, 51, 52, 53, 54] (by decide +kernel) rfl
  delta WXY at hP hD
  refine W.widen (k := c0) (n := s0) (Nat.le_refl _) (Nat.le_refl _) ?_
  have hw : r_8.toInt = sd.toInt := hw
  have hw_10 := hw
  refine lv_pop2_2 hx hb dL_law_848 rfl ?_
  refine lv_aload_n hx hb dL_law_849 rfl (lv_at hl 2 rfl) ?_
  refine lv_aload_n hx hb dL_law_850 rfl (lv_at hl 0 rfl) ?_
  refine lv_iload_n hx hb dL_law_851 rfl (lv_at hl 3 rfl) ?_
  refine lv_iconst (v := 1) hx hb dL_law_852 (by decide) ?_
  refine lv_iadd hx hb dL_law_853 ?_
  refine lv_topi (fun v_11 ev_11 => ?_)
  have tv_11 : v_11.toInt = ix.toInt + (1 : Int) := by rw [ev_11]; exact ti_add (x := ix) (y := 1) (show -2147483648 ≤ ix.toInt + (1 : Int) by omega) (show ix.toInt + (1 : Int) < 2147483648 by omega)
  refine va_sld hx hb hX hbl hbA hS (vp_in_iff.mpr ⟨by omega, by omega⟩) dL_law_854 ?_
  refine lv_topc (y := a1) (by rw [ev_11]; exact ha1) ?_
  refine lv_i2l hx hb dL_law_855 ew_2 ?_
  refine lv_bipush (v := 32) hx hb dL_law_856 (by decide) ?_
  refine lv_lshl hx hb dL_law_858 ew_3 ?_
  refine lv_aload_n hx hb dL_law_859 rfl (lv_at hl 0 rfl) ?_
  refine lv_iload_n hx hb dL_law_860 rfl (lv_at hl 3 rfl) ?_
  refine lv_iconst (v := 2) hx hb dL_law_861 (by decide) ?_
  refine lv_iadd hx hb dL_law_862 ?_
  refine lv_topi (fun v_12 ev_12 => ?_)
  have tv_12 : v_12.toInt = ix.toInt + (2 : Int) := by rw [ev_12]; exact ti_add (x := ix) (y := 2) (show -2147483648 ≤ ix.toInt + (2 : Int) by omega) (show ix.toInt + (2 : Int) < 2147483648 by omega)
  refine va_sld hx hb hX hbl hbA hS (vp_in_iff.mpr ⟨by omega, by omega⟩) dL_law_863 ?_
  refine lv_topc (y := a2) (by rw [ev_12]; exact ha2) ?_
  refine lv_i2l hx hb dL_law_864 ew_5 ?_
  refine lv_ldc2 (v := (4294967295)) hx hb hown (hts (.constantLong RL 116 (4294967295)) (List.mem_of_getElem? (i := 6) rfl)) dL_law_865 ?_
  refine lv_land hx hb dL_law_868 ?_
  refine lv_topcL (y := w_6) ew_6.symm ?_
  refine lv_lor hx hb dL_law_869 ?_
  refine lv_topcL (y := w_7) ew_7.symm ?_
  refine fV_l (As := [.long w_7]) (rest := []) ⟨hx, hb, hml, hown, hts⟩ (c_X4_seed l D cI cZ cM y0 w_7 ype ytk ywi yki yse yno yrh yrw yrk yrt yrp yrq ytx yle yat yfa yby ylo yhi yac ynx yro ygl ysn yso ysp ysw ysd yik ykp _ ) (cwV 1 hts gL_law_X4_seed rfl rfl rfl (by decide +kernel) ⟨by rw [hR]; decide, by rw [hR]; decide⟩) hK hP hD hS hA [36] [0, 1, 2, 3, 4, 5, 6, 7, 8, 9, 10, 11, 12, 13, 14, 15, 16, 17, 18, 19, 20, 21, 22, 23, 24, 25, 26, 27, 28, 29, 30, 31, 32, 33, 34, 35, 37, 38, 39, 40, 41, 42, 43, 44, 45, 46, 47, 48, 49, 50, 51, 52, 53, 54, 55] rfl rfl (by decide) (by decide +kernel) (by decide +kernel) rfl 36 rfl hl.1 rfl rfl (Nat.le_of_ble_eq_true rfl) dL_law_870 ⟨by rw [hR]; exact (show _ ≤ 600000 by omega), by rw [hR]; exact (show _ ≤ 7302250 by omega)⟩ (fun r_13 u_14 H locs hw hP hD hS => ?_)
  obtain ⟨hP, hD⟩ := PD_subF (X' := WXY cI cZ cM x0 y0 tx le td dr nw ac fa an kp ks sp ss sy sc w_7 tr ia Ftx lpe ltk lho lli lki lfd lfr lto lse lhl lFho lFli lFki lFfd lFfr lFto lFse lFhl dpe dtk dho dli dki dfd dfr dto dse dhl dFho dFli dFki dFfd dFfr dFto dFse dFhl md mt mr mg mat mfd mhd mFat mFfd mFhd Fac Fkp Fsp Fss Fsy mo rd zd zt zr zg zat zfd zhd zFat zFfd zFhd Frd Fia ype ytk ywi yki yse yno yrh yrw yrk yrt yrp yrq ytx yle yat yfa yby ylo yhi yac ynx yro ygl ysn yso ysp ysw w_7 yik ykp Ywi Yki Yse Yno Yrh Yrw Yrk Yrt Ytx Yby Ylo Yhi Yro Ygl Yso Ysp Ysw Yik Ykp) hP hD [0, 1, 2, 3, 4, 5, 6, 7, 8, 9, 10, 11, 12, 13, 14, 15, 16, 17, 18, 19, 20, 21, 22, 23, 24, 25, 26, 27, 28, 29, 30, 31, 32, 33, 34, 35, 55, 36, 37, 38, 39, 40, 41, 42, 43, 44, 45, 46, 47, 48, 49, 50, 51, 52, 53, 54] (by decide +kernel) rfl
  delta WXY at hP hD
  refine W.widen (k := c0) (n := s0) (Nat.le_refl _) (Nat.le_refl _) ?_
  have hw : r_13.toInt = ysd.toInt := hw
  have hw_15 := hw
  refine lv_pop2_2 hx hb dL_law_873 rfl ?_
  refine lv_goto (tgt := 969) hx hb dL_law_874 (by decide) ?_
  refine W.widen (k := c0 + 4) (n := s0 + 27) (by omega) (by omega) ?_
  exact hNext _ _ _ (stw_intro hP hD ⟨⟨hle0, hle1⟩, ⟨hfa0, hfa1⟩, ⟨han0, han1⟩, ⟨hsc0, hsc1⟩, ⟨hlpe0, hlpe1⟩, ⟨hltk0, hltk1⟩, ⟨hmd0, hmd1⟩, ⟨hmt0, hmt1⟩, ⟨hype0, hype1⟩, ⟨hytk0, hytk1⟩, ⟨hyle0, hyle1⟩, ⟨hyac0, hyac1⟩, ⟨hynx0, hynx1⟩, ⟨hysn0, hysn1⟩, hPoA, hPoK, hMsO, hByO, hle, rfl, hTX, hTxO, hlpt, hsct⟩) hS (lv_sub hl [0, 1, 2, 3] rfl)
