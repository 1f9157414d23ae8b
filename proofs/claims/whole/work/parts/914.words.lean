set_option maxRecDepth 20000 in
theorem ggL_law_X7_alike : GoodIn wsL_law wsX7_alike := goodIn_r _ [650, 164, 166, 167, 102, 114, 115, 124, 108, 109, 254, 255, 5, 256, 257, 125, 126, 127, 172, 173, 174, 175, 176, 520, 521, 522, 523, 107, 111, 112, 110, 524, 525, 526, 527, 103, 807, 808, 809, 810, 811, 812, 813, 814, 815, 816, 817, 818, 819, 820, 821, 822, 823, 824, 825, 826, 827, 828, 829, 830, 831, 832, 833, 834] (by decide +kernel) (by decide +kernel)
set_option maxRecDepth 20000 in
theorem gL_law_X7_alike : GoodIn wsL_law (wsV RL 108 RX7 yX7_alike wsX7_alike) := goodIn_app (goodIn_of _ (by decide +kernel)) ggL_law_X7_alike
set_option maxRecDepth 20000 in
theorem ggL_law_X6_round : GoodIn wsL_law wsX6_round := goodIn_r _ [654, 135, 21, 323, 324, 32, 221, 222, 2, 223, 141, 142, 143, 144, 38, 145, 655, 656, 31, 657, 658, 659, 660, 661, 81, 82, 77, 78, 662, 663, 290, 291, 233, 292, 240, 241, 239, 293, 294, 295, 296, 297, 298, 299, 300, 301, 153, 302, 303, 152, 154, 664, 665, 666, 667, 79, 668, 202, 203, 204, 75, 80, 669, 275, 226, 276, 670, 671, 672, 673, 305, 306, 674, 675, 676, 677, 678, 679, 680, 681, 156, 157, 158, 159, 797, 798, 799, 800, 801, 802, 803, 804, 805, 806, 867, 868, 869, 870, 847, 848, 849, 850, 851, 852, 853] (by decide +kernel) (by decide +kernel)
set_option maxRecDepth 20000 in
theorem gL_law_X6_round : GoodIn wsL_law (wsV RL 109 RX6 yX6_round wsX6_round) := goodIn_app (goodIn_of _ (by decide +kernel)) ggL_law_X6_round
set_option maxRecDepth 20000 in
theorem ggL_law_X7_round : GoodIn wsL_law wsX7_round := goodIn_r _ [685, 164, 686, 166, 167, 102, 331, 120, 254, 255, 5, 256, 257, 125, 126, 127, 350, 351, 352, 353, 172, 173, 174, 175, 176, 687, 688, 689, 690, 116, 118, 124, 691, 692, 693, 694, 117, 103, 695, 696, 697, 698, 119, 699, 700, 701, 702, 315, 316, 317, 318, 807, 808, 809, 810, 811, 812, 813, 814, 815, 816, 817, 818, 819, 820, 821, 822, 823, 824, 825, 826, 827, 828, 829, 830, 831, 832, 833, 834] (by decide +kernel) (by decide +kernel)
set_option maxRecDepth 20000 in
theorem gL_law_X7_round : GoodIn wsL_law (wsV RL 112 RX7 yX7_round wsX7_round) := goodIn_app (goodIn_of _ (by decide +kernel)) ggL_law_X7_round
set_option maxRecDepth 20000 in
theorem ggL_law_X6_fraction : GoodIn wsL_law wsX6_fraction := goodIn_r _ [706, 135, 36, 536, 707, 708, 709, 2, 710, 711, 712, 713, 714, 715, 153, 716, 717, 718, 719, 35, 720, 91, 92, 88, 721, 722, 90, 89, 723, 724, 725, 726, 727, 728, 729, 730, 731, 732, 411, 412, 49, 413, 68, 65, 414, 294, 295, 296, 415, 416, 417, 418, 70, 66, 419, 407, 408, 409, 420, 421, 422, 423, 424, 152, 154, 67, 69, 425, 426, 427, 428, 733, 734, 735, 736, 737, 797, 798, 799, 800, 801, 802, 803, 804, 805, 806, 854, 855, 856, 857, 858, 859, 860, 861, 862, 863, 864] (by decide +kernel) (by decide +kernel)
set_option maxRecDepth 20000 in
theorem gL_law_X6_fraction : GoodIn wsL_law (wsV RL 113 RX6 yX6_fraction wsX6_fraction) := goodIn_app (goodIn_of _ (by decide +kernel)) ggL_law_X6_fraction
set_option maxRecDepth 20000 in
theorem ggL_law_X7_fraction : GoodIn wsL_law wsX7_fraction := goodIn_r _ [741, 164, 165, 166, 742, 743, 541, 744, 745, 5, 746, 747, 748, 749, 125, 126, 127, 750, 751, 752, 753, 754, 755, 756, 121, 757, 758, 759, 760, 761, 807, 808, 809, 810, 811, 812, 813, 814, 815, 816, 817, 818, 819, 820, 821, 822, 823, 824, 825, 826, 827, 828, 829, 830, 831, 832, 833, 834] (by decide +kernel) (by decide +kernel)
set_option maxRecDepth 20000 in
theorem gL_law_X7_fraction : GoodIn wsL_law (wsV RL 116 RX7 yX7_fraction wsX7_fraction) := goodIn_app (goodIn_of _ (by decide +kernel)) ggL_law_X7_fraction
set_option maxRecDepth 20000 in
theorem ggL_law_X6_next : GoodIn wsL_law wsX6_next := goodIn_r _ [765, 135, 708, 709, 2, 710, 711, 712, 713, 714, 715, 153, 716, 766, 729, 35, 730, 731] (by decide +kernel) (by decide +kernel)
set_option maxRecDepth 20000 in
theorem gL_law_X6_next : GoodIn wsL_law (wsV RL 117 RX6 yX6_next wsX6_next) := goodIn_app (goodIn_of _ (by decide +kernel)) ggL_law_X6_next
set_option maxRecDepth 20000 in
theorem ggL_law_X7_next : GoodIn wsL_law wsX7_next := goodIn_r _ [770, 164, 771, 772, 166, 744, 745, 5, 746, 747, 748, 749, 125, 126, 127, 750, 751, 752, 759, 760, 761, 541, 807, 808, 809, 810, 811, 812, 813, 814, 815, 816, 817, 818, 819, 820, 821, 822, 823, 824, 825, 826, 827, 828, 829, 830, 831, 832, 833, 834] (by decide +kernel) (by decide +kernel)
set_option maxRecDepth 20000 in
theorem gL_law_X7_next : GoodIn wsL_law (wsV RL 120 RX7 yX7_next wsX7_next) := goodIn_app (goodIn_of _ (by decide +kernel)) ggL_law_X7_next
set_option maxRecDepth 20000 in
theorem ggL_law_X6_count : GoodIn wsL_law wsX6_count := goodIn_r _ [776, 17, 135, 777, 778, 779, 2, 780, 19, 781, 782, 783, 784, 21, 369, 370, 371, 233, 372, 242, 797, 798, 799, 800, 801, 802, 803, 804, 805, 806, 867, 868, 869, 870] (by decide +kernel) (by decide +kernel)
set_option maxRecDepth 20000 in
theorem gL_law_X6_count : GoodIn wsL_law (wsV RL 121 RX6 yX6_count wsX6_count) := goodIn_app (goodIn_of _ (by decide +kernel)) ggL_law_X6_count
set_option maxRecDepth 20000 in
theorem ggL_law_X7_count : GoodIn wsL_law wsX7_count := goodIn_r _ [788, 164, 98, 102, 124, 166, 266, 267, 268, 5, 269, 103, 377, 378, 379, 807, 808, 809, 810, 811, 812, 813, 814, 815, 816, 817, 818, 819, 820, 821, 822, 823, 824, 825, 826, 827, 828, 829, 830, 831, 832, 833, 834] (by decide +kernel) (by decide +kernel)
set_option maxRecDepth 20000 in
theorem gL_law_X7_count : GoodIn wsL_law (wsV RL 124 RX7 yX7_count wsX7_count) := goodIn_app (goodIn_of _ (by decide +kernel)) ggL_law_X7_count
set_option maxRecDepth 20000 in
theorem ggL_law_X6_status : GoodIn wsL_law wsX6_status := goodIn_r _ [792, 38, 797, 798, 799, 800, 801, 802, 803, 804, 805, 806] (by decide +kernel) (by decide +kernel)
set_option maxRecDepth 20000 in
theorem gL_law_X6_status : GoodIn wsL_law (wsV RL 125 RX6 yX6_status wsX6_status) := goodIn_app (goodIn_of _ (by decide +kernel)) ggL_law_X6_status
set_option maxRecDepth 20000 in
theorem ggL_law_X7_status : GoodIn wsL_law wsX7_status := goodIn_r _ [796, 164, 167, 807, 808, 809, 810, 811, 812, 813, 814, 815, 816, 817, 818, 819, 820, 821, 822, 823, 824, 825, 826, 827, 828, 829, 830, 831, 832, 833, 834] (by decide +kernel) (by decide +kernel)
set_option maxRecDepth 20000 in
theorem gL_law_X7_status : GoodIn wsL_law (wsV RL 129 RX7 yX7_status wsX7_status) := goodIn_app (goodIn_of _ (by decide +kernel)) ggL_law_X7_status
