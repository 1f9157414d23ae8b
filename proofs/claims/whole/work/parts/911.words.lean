set_option maxRecDepth 20000 in
theorem ggL_law_L_cell : GoodIn wsL_law wsL_cell := goodIn_r _ [10] (by decide +kernel) (by decide +kernel)
set_option maxRecDepth 20000 in
theorem gL_law_L_cell : GoodIn wsL_law (va_wsS RL 9 yL_cell wsL_cell) := goodIn_app (goodIn_of _ (by decide +kernel)) ggL_law_L_cell
set_option maxRecDepth 20000 in
theorem ggL_law_X6_init : GoodIn wsL_law wsX6_init := goodIn_r _ [13, 14, 15, 16, 17, 18, 19, 20, 21, 22, 23, 24, 25, 26, 27, 28, 29, 30, 31, 32, 33, 34, 35, 36, 37, 38, 39, 40, 2, 41, 42, 43, 44, 45, 46, 47, 48, 49, 50, 51, 52, 53, 54, 55, 56, 57, 58, 59, 60, 61, 62, 63, 64, 65, 66, 67, 68, 69, 70, 71, 72, 73, 74, 75, 76, 77, 78, 79, 80, 81, 82, 83, 84, 85, 86, 87, 88, 89, 90, 91, 92, 93, 797, 798, 799, 800, 801, 802, 803, 804, 805, 806, 835, 836, 837, 838, 839, 840, 841, 842, 843, 844, 845, 846, 847, 848, 849, 850, 851, 852, 853, 854, 855, 856, 857, 858, 859, 860, 861, 862, 863, 864] (by decide +kernel) (by decide +kernel)
set_option maxRecDepth 20000 in
theorem gL_law_X6_init : GoodIn wsL_law (wsX6_init) := ggL_law_X6_init
set_option maxRecDepth 20000 in
theorem ggL_law_X7_init : GoodIn wsL_law wsX7_init := goodIn_r _ [96, 97, 15, 16, 22, 98, 99, 100, 101, 102, 103, 104, 105, 106, 107, 108, 109, 110, 111, 112, 113, 114, 115, 116, 117, 118, 119, 120, 121, 122, 123, 124, 125, 126, 5, 127, 128, 129, 130, 807, 808, 809, 810, 811, 812, 813, 814, 815, 816, 817, 818, 819, 820, 821, 822, 823, 824, 825, 826, 827, 828, 829, 830, 831, 832, 833, 834] (by decide +kernel) (by decide +kernel)
set_option maxRecDepth 20000 in
theorem gL_law_X7_init : GoodIn wsL_law (wsX7_init) := ggL_law_X7_init
set_option maxRecDepth 20000 in
theorem ggL_law_X6_sheet : GoodIn wsL_law wsX6_sheet := goodIn_r _ [134, 135, 19, 18, 136, 137, 138, 139, 2, 140, 141, 142, 143, 144, 38, 145, 146, 147, 148, 149, 15, 16, 150, 151, 152, 153, 154, 100, 155, 156, 157, 158, 159, 797, 798, 799, 800, 801, 802, 803, 804, 805, 806, 865, 866] (by decide +kernel) (by decide +kernel)
set_option maxRecDepth 20000 in
theorem gL_law_X6_sheet : GoodIn wsL_law (wsV RL 21 RX6 yX6_sheet wsX6_sheet) := goodIn_app (goodIn_of _ (by decide +kernel)) ggL_law_X6_sheet
set_option maxRecDepth 20000 in
theorem ggL_law_X7_sheet : GoodIn wsL_law wsX7_sheet := goodIn_r _ [163, 164, 165, 166, 167, 98, 99, 101, 168, 169, 5, 170, 171, 125, 126, 127, 172, 173, 174, 175, 176, 807, 808, 809, 810, 811, 812, 813, 814, 815, 816, 817, 818, 819, 820, 821, 822, 823, 824, 825, 826, 827, 828, 829, 830, 831, 832, 833, 834] (by decide +kernel) (by decide +kernel)
set_option maxRecDepth 20000 in
theorem gL_law_X7_sheet : GoodIn wsL_law (wsV RL 25 RX7 yX7_sheet wsX7_sheet) := goodIn_app (goodIn_of _ (by decide +kernel)) ggL_law_X7_sheet
set_option maxRecDepth 20000 in
theorem ggL_law_X6_set : GoodIn wsL_law wsX6_set := goodIn_r _ [180, 181, 19, 182, 38, 138, 139, 2, 140, 141, 142, 143, 144, 145, 183, 184, 185, 137, 186, 155, 187, 188, 189, 190, 150, 797, 798, 799, 800, 801, 802, 803, 804, 805, 806, 865, 866] (by decide +kernel) (by decide +kernel)
set_option maxRecDepth 20000 in
theorem gL_law_X6_set : GoodIn wsL_law (wsV RL 28 RX6 yX6_set wsX6_set) := goodIn_app (goodIn_of _ (by decide +kernel)) ggL_law_X6_set
set_option maxRecDepth 20000 in
theorem ggL_law_X7_set : GoodIn wsL_law wsX7_set := goodIn_r _ [194, 164, 195, 167, 98, 99, 101, 168, 169, 5, 170, 171, 125, 126, 127, 172, 173, 174, 175, 176, 807, 808, 809, 810, 811, 812, 813, 814, 815, 816, 817, 818, 819, 820, 821, 822, 823, 824, 825, 826, 827, 828, 829, 830, 831, 832, 833, 834] (by decide +kernel) (by decide +kernel)
set_option maxRecDepth 20000 in
theorem gL_law_X7_set : GoodIn wsL_law (wsV RL 32 RX7 yX7_set wsX7_set) := goodIn_app (goodIn_of _ (by decide +kernel)) ggL_law_X7_set
set_option maxRecDepth 20000 in
theorem ggL_law_X6_copy : GoodIn wsL_law wsX6_copy := goodIn_r _ [199, 135, 19, 200, 182, 201, 202, 203, 204, 138, 139, 2, 140, 141, 142, 143, 144, 38, 145, 183, 184, 185, 137, 186, 155, 156, 157, 158, 159, 797, 798, 799, 800, 801, 802, 803, 804, 805, 806, 865, 866] (by decide +kernel) (by decide +kernel)
set_option maxRecDepth 20000 in
theorem gL_law_X6_copy : GoodIn wsL_law (wsV RL 33 RX6 yX6_copy wsX6_copy) := goodIn_app (goodIn_of _ (by decide +kernel)) ggL_law_X6_copy
set_option maxRecDepth 20000 in
theorem ggL_law_X7_copy : GoodIn wsL_law wsX7_copy := goodIn_r _ [208, 164, 166, 167, 98, 99, 101, 168, 169, 5, 170, 171, 125, 126, 127, 172, 173, 174, 175, 176, 807, 808, 809, 810, 811, 812, 813, 814, 815, 816, 817, 818, 819, 820, 821, 822, 823, 824, 825, 826, 827, 828, 829, 830, 831, 832, 833, 834] (by decide +kernel) (by decide +kernel)
set_option maxRecDepth 20000 in
theorem gL_law_X7_copy : GoodIn wsL_law (wsV RL 37 RX7 yX7_copy wsX7_copy) := goodIn_app (goodIn_of _ (by decide +kernel)) ggL_law_X7_copy
set_option maxRecDepth 20000 in
theorem ggL_law_X6_drop : GoodIn wsL_law wsX6_drop := goodIn_r _ [212, 135, 19, 182, 138, 139, 2, 140, 141, 142, 143, 144, 38, 145, 156, 157, 158, 159, 797, 798, 799, 800, 801, 802, 803, 804, 805, 806, 865, 866] (by decide +kernel) (by decide +kernel)
set_option maxRecDepth 20000 in
theorem gL_law_X6_drop : GoodIn wsL_law (wsV RL 38 RX6 yX6_drop wsX6_drop) := goodIn_app (goodIn_of _ (by decide +kernel)) ggL_law_X6_drop
set_option maxRecDepth 20000 in
theorem ggL_law_X7_drop : GoodIn wsL_law wsX7_drop := goodIn_r _ [216, 164, 166, 167, 98, 99, 168, 169, 5, 170, 171, 125, 126, 127, 172, 173, 174, 175, 176, 807, 808, 809, 810, 811, 812, 813, 814, 815, 816, 817, 818, 819, 820, 821, 822, 823, 824, 825, 826, 827, 828, 829, 830, 831, 832, 833, 834] (by decide +kernel) (by decide +kernel)
set_option maxRecDepth 20000 in
theorem gL_law_X7_drop : GoodIn wsL_law (wsV RL 42 RX7 yX7_drop wsX7_drop) := goodIn_app (goodIn_of _ (by decide +kernel)) ggL_law_X7_drop
set_option maxRecDepth 20000 in
theorem ggL_law_X6_map : GoodIn wsL_law wsX6_map := goodIn_r _ [220, 135, 19, 22, 182, 17, 221, 222, 2, 223, 138, 139, 140, 141, 142, 143, 144, 38, 145, 183, 184, 185, 137, 186, 155, 224, 225, 226, 227, 228, 229, 230, 231, 20, 232, 233, 21, 234, 235, 236, 237, 238, 15, 16, 239, 240, 241, 242, 243, 244, 245, 246, 247, 248, 156, 157, 158, 159, 797, 798, 799, 800, 801, 802, 803, 804, 805, 806, 865, 866, 867, 868, 869, 870] (by decide +kernel) (by decide +kernel)
set_option maxRecDepth 20000 in
theorem gL_law_X6_map : GoodIn wsL_law (wsV RL 43 RX6 yX6_map wsX6_map) := goodIn_app (goodIn_of _ (by decide +kernel)) ggL_law_X6_map
set_option maxRecDepth 20000 in
theorem ggL_law_X7_map : GoodIn wsL_law wsX7_map := goodIn_r _ [252, 164, 253, 166, 98, 99, 104, 101, 254, 255, 5, 256, 257, 125, 126, 127, 168, 169, 170, 171, 172, 173, 174, 175, 167, 176, 258, 259, 260, 261, 124, 262, 263, 264, 265, 102, 103, 266, 267, 268, 269, 807, 808, 809, 810, 811, 812, 813, 814, 815, 816, 817, 818, 819, 820, 821, 822, 823, 824, 825, 826, 827, 828, 829, 830, 831, 832, 833, 834] (by decide +kernel) (by decide +kernel)
set_option maxRecDepth 20000 in
theorem gL_law_X7_map : GoodIn wsL_law (wsV RL 47 RX7 yX7_map wsX7_map) := goodIn_app (goodIn_of _ (by decide +kernel)) ggL_law_X7_map
set_option maxRecDepth 20000 in
theorem ggL_law_X6_plain : GoodIn wsL_law wsX6_plain := goodIn_r _ [273, 135, 22, 17, 221, 222, 2, 223, 274, 275, 226, 276, 228, 229, 230, 231, 20, 232, 233, 21, 234, 235, 236, 237, 238, 15, 16, 239, 240, 241, 242, 243, 244, 245, 246, 247, 248, 156, 157, 158, 159, 38, 797, 798, 799, 800, 801, 802, 803, 804, 805, 806, 867, 868, 869, 870] (by decide +kernel) (by decide +kernel)
set_option maxRecDepth 20000 in
theorem gL_law_X6_plain : GoodIn wsL_law (wsV RL 48 RX6 yX6_plain wsX6_plain) := goodIn_app (goodIn_of _ (by decide +kernel)) ggL_law_X6_plain
