set_option maxRecDepth 20000 in
theorem ggL_law_X7_alike : GoodIn wsL_law wsX7_alike := goodIn_r _ [639, 165, 167, 168, 103, 115, 116, 125, 109, 110, 255, 256, 5, 257, 258, 126, 127, 128, 173, 174, 175, 176, 177, 511, 512, 513, 514, 108, 112, 113, 111, 515, 516, 517, 518, 104, 796, 797, 798, 799, 800, 801, 802, 803, 804, 805, 806, 807, 808, 809, 810, 811, 812, 813, 814, 815, 816, 817, 818, 819, 820, 821, 822, 823] (by decide +kernel) (by decide +kernel)
set_option maxRecDepth 20000 in
theorem gL_law_X7_alike : GoodIn wsL_law (wsV RL 108 RX7 yX7_alike wsX7_alike) := goodIn_app (goodIn_of _ (by decide +kernel)) ggL_law_X7_alike
set_option maxRecDepth 20000 in
theorem ggL_law_X6_round : GoodIn wsL_law wsX6_round := goodIn_r _ [643, 136, 21, 324, 325, 32, 222, 223, 2, 224, 142, 143, 144, 145, 38, 146, 644, 645, 31, 646, 647, 648, 649, 650, 82, 83, 78, 79, 651, 652, 291, 292, 234, 293, 241, 242, 240, 294, 295, 296, 297, 298, 299, 300, 301, 302, 154, 303, 304, 153, 155, 653, 654, 655, 656, 80, 657, 203, 204, 205, 76, 81, 658, 276, 227, 277, 659, 660, 661, 662, 306, 307, 663, 664, 665, 666, 667, 668, 669, 670, 157, 158, 159, 160, 786, 787, 788, 789, 790, 791, 792, 793, 794, 795, 856, 857, 858, 859, 836, 837, 838, 839, 840, 841, 842] (by decide +kernel) (by decide +kernel)
set_option maxRecDepth 20000 in
theorem gL_law_X6_round : GoodIn wsL_law (wsV RL 109 RX6 yX6_round wsX6_round) := goodIn_app (goodIn_of _ (by decide +kernel)) ggL_law_X6_round
set_option maxRecDepth 20000 in
theorem ggL_law_X7_round : GoodIn wsL_law wsX7_round := goodIn_r _ [674, 165, 675, 167, 168, 103, 332, 121, 255, 256, 5, 257, 258, 126, 127, 128, 351, 352, 353, 354, 173, 174, 175, 176, 177, 676, 677, 678, 679, 117, 119, 125, 680, 681, 682, 683, 118, 104, 684, 685, 686, 687, 120, 688, 689, 690, 691, 316, 317, 318, 319, 796, 797, 798, 799, 800, 801, 802, 803, 804, 805, 806, 807, 808, 809, 810, 811, 812, 813, 814, 815, 816, 817, 818, 819, 820, 821, 822, 823] (by decide +kernel) (by decide +kernel)
set_option maxRecDepth 20000 in
theorem gL_law_X7_round : GoodIn wsL_law (wsV RL 112 RX7 yX7_round wsX7_round) := goodIn_app (goodIn_of _ (by decide +kernel)) ggL_law_X7_round
set_option maxRecDepth 20000 in
theorem ggL_law_X6_fraction : GoodIn wsL_law wsX6_fraction := goodIn_r _ [695, 136, 36, 527, 696, 697, 698, 2, 699, 700, 701, 702, 703, 704, 154, 705, 706, 707, 708, 35, 709, 92, 93, 89, 710, 711, 91, 712, 90, 713, 714, 715, 716, 717, 718, 719, 720, 721, 405, 406, 49, 407, 69, 66, 408, 295, 296, 297, 409, 410, 411, 412, 71, 67, 413, 414, 415, 416, 417, 418, 419, 420, 68, 70, 421, 422, 423, 424, 722, 723, 724, 725, 726, 786, 787, 788, 789, 790, 791, 792, 793, 794, 795, 843, 844, 845, 846, 847, 848, 849, 850, 851, 852, 853] (by decide +kernel) (by decide +kernel)
set_option maxRecDepth 20000 in
theorem gL_law_X6_fraction : GoodIn wsL_law (wsV RL 113 RX6 yX6_fraction wsX6_fraction) := goodIn_app (goodIn_of _ (by decide +kernel)) ggL_law_X6_fraction
set_option maxRecDepth 20000 in
theorem ggL_law_X7_fraction : GoodIn wsL_law wsX7_fraction := goodIn_r _ [730, 165, 166, 167, 731, 732, 532, 733, 734, 5, 735, 736, 737, 738, 126, 127, 128, 739, 740, 741, 742, 743, 744, 745, 122, 746, 747, 748, 749, 750, 796, 797, 798, 799, 800, 801, 802, 803, 804, 805, 806, 807, 808, 809, 810, 811, 812, 813, 814, 815, 816, 817, 818, 819, 820, 821, 822, 823] (by decide +kernel) (by decide +kernel)
set_option maxRecDepth 20000 in
theorem gL_law_X7_fraction : GoodIn wsL_law (wsV RL 116 RX7 yX7_fraction wsX7_fraction) := goodIn_app (goodIn_of _ (by decide +kernel)) ggL_law_X7_fraction
set_option maxRecDepth 20000 in
theorem ggL_law_X6_next : GoodIn wsL_law wsX6_next := goodIn_r _ [754, 136, 697, 698, 2, 699, 700, 701, 702, 703, 704, 154, 705, 755, 718, 35, 719, 720] (by decide +kernel) (by decide +kernel)
set_option maxRecDepth 20000 in
theorem gL_law_X6_next : GoodIn wsL_law (wsV RL 117 RX6 yX6_next wsX6_next) := goodIn_app (goodIn_of _ (by decide +kernel)) ggL_law_X6_next
set_option maxRecDepth 20000 in
theorem ggL_law_X7_next : GoodIn wsL_law wsX7_next := goodIn_r _ [759, 165, 760, 761, 167, 733, 734, 5, 735, 736, 737, 738, 126, 127, 128, 739, 740, 741, 748, 749, 750, 532, 796, 797, 798, 799, 800, 801, 802, 803, 804, 805, 806, 807, 808, 809, 810, 811, 812, 813, 814, 815, 816, 817, 818, 819, 820, 821, 822, 823] (by decide +kernel) (by decide +kernel)
set_option maxRecDepth 20000 in
theorem gL_law_X7_next : GoodIn wsL_law (wsV RL 120 RX7 yX7_next wsX7_next) := goodIn_app (goodIn_of _ (by decide +kernel)) ggL_law_X7_next
set_option maxRecDepth 20000 in
theorem ggL_law_X6_count : GoodIn wsL_law wsX6_count := goodIn_r _ [765, 17, 136, 766, 767, 768, 2, 769, 19, 770, 771, 772, 773, 21, 370, 371, 372, 234, 373, 243, 786, 787, 788, 789, 790, 791, 792, 793, 794, 795, 856, 857, 858, 859] (by decide +kernel) (by decide +kernel)
set_option maxRecDepth 20000 in
theorem gL_law_X6_count : GoodIn wsL_law (wsV RL 121 RX6 yX6_count wsX6_count) := goodIn_app (goodIn_of _ (by decide +kernel)) ggL_law_X6_count
set_option maxRecDepth 20000 in
theorem ggL_law_X7_count : GoodIn wsL_law wsX7_count := goodIn_r _ [777, 165, 99, 103, 125, 167, 267, 268, 269, 5, 270, 104, 378, 379, 380, 796, 797, 798, 799, 800, 801, 802, 803, 804, 805, 806, 807, 808, 809, 810, 811, 812, 813, 814, 815, 816, 817, 818, 819, 820, 821, 822, 823] (by decide +kernel) (by decide +kernel)
set_option maxRecDepth 20000 in
theorem gL_law_X7_count : GoodIn wsL_law (wsV RL 124 RX7 yX7_count wsX7_count) := goodIn_app (goodIn_of _ (by decide +kernel)) ggL_law_X7_count
set_option maxRecDepth 20000 in
theorem ggL_law_X6_status : GoodIn wsL_law wsX6_status := goodIn_r _ [781, 38, 786, 787, 788, 789, 790, 791, 792, 793, 794, 795] (by decide +kernel) (by decide +kernel)
set_option maxRecDepth 20000 in
theorem gL_law_X6_status : GoodIn wsL_law (wsV RL 125 RX6 yX6_status wsX6_status) := goodIn_app (goodIn_of _ (by decide +kernel)) ggL_law_X6_status
set_option maxRecDepth 20000 in
theorem ggL_law_X7_status : GoodIn wsL_law wsX7_status := goodIn_r _ [785, 165, 168, 796, 797, 798, 799, 800, 801, 802, 803, 804, 805, 806, 807, 808, 809, 810, 811, 812, 813, 814, 815, 816, 817, 818, 819, 820, 821, 822, 823] (by decide +kernel) (by decide +kernel)
set_option maxRecDepth 20000 in
theorem gL_law_X7_status : GoodIn wsL_law (wsV RL 129 RX7 yX7_status wsX7_status) := goodIn_app (goodIn_of _ (by decide +kernel)) ggL_law_X7_status
