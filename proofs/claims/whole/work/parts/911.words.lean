set_option maxRecDepth 20000 in
theorem ggL_law_L_cell : GoodIn wsL_law wsL_cell := goodIn_r _ [10] (by decide +kernel) (by decide +kernel)
set_option maxRecDepth 20000 in
theorem gL_law_L_cell : GoodIn wsL_law (va_wsS RL 9 yL_cell wsL_cell) := goodIn_app (goodIn_of _ (by decide +kernel)) ggL_law_L_cell
set_option maxRecDepth 20000 in
theorem ggL_law_X6_init : GoodIn wsL_law wsX6_init := goodIn_r _ [13, 14, 15, 16, 17, 18, 19, 20, 21, 22, 23, 24, 25, 26, 27, 28, 29, 30, 31, 32, 33, 34, 35, 36, 37, 38, 39, 40, 2, 41, 42, 43, 44, 45, 46, 47, 48, 49, 50, 51, 52, 53, 54, 55, 56, 57, 58, 59, 60, 61, 62, 63, 64, 65, 66, 67, 68, 69, 70, 71, 72, 73, 74, 75, 76, 77, 78, 79, 80, 81, 82, 83, 84, 85, 86, 87, 88, 89, 90, 91, 92, 93, 94, 786, 787, 788, 789, 790, 791, 792, 793, 794, 795, 824, 825, 826, 827, 828, 829, 830, 831, 832, 833, 834, 835, 836, 837, 838, 839, 840, 841, 842, 843, 844, 845, 846, 847, 848, 849, 850, 851, 852, 853] (by decide +kernel) (by decide +kernel)
set_option maxRecDepth 20000 in
theorem gL_law_X6_init : GoodIn wsL_law (wsX6_init) := ggL_law_X6_init
set_option maxRecDepth 20000 in
theorem ggL_law_X7_init : GoodIn wsL_law wsX7_init := goodIn_r _ [97, 98, 15, 16, 22, 99, 100, 101, 102, 103, 104, 105, 106, 107, 108, 109, 110, 111, 112, 113, 114, 115, 116, 117, 118, 119, 120, 121, 122, 123, 124, 125, 126, 127, 5, 128, 129, 130, 131, 796, 797, 798, 799, 800, 801, 802, 803, 804, 805, 806, 807, 808, 809, 810, 811, 812, 813, 814, 815, 816, 817, 818, 819, 820, 821, 822, 823] (by decide +kernel) (by decide +kernel)
set_option maxRecDepth 20000 in
theorem gL_law_X7_init : GoodIn wsL_law (wsX7_init) := ggL_law_X7_init
set_option maxRecDepth 20000 in
theorem ggL_law_X6_sheet : GoodIn wsL_law wsX6_sheet := goodIn_r _ [135, 136, 19, 18, 137, 138, 139, 140, 2, 141, 142, 143, 144, 145, 38, 146, 147, 148, 149, 150, 15, 16, 151, 152, 153, 154, 155, 101, 156, 157, 158, 159, 160, 786, 787, 788, 789, 790, 791, 792, 793, 794, 795, 854, 855] (by decide +kernel) (by decide +kernel)
set_option maxRecDepth 20000 in
theorem gL_law_X6_sheet : GoodIn wsL_law (wsV RL 21 RX6 yX6_sheet wsX6_sheet) := goodIn_app (goodIn_of _ (by decide +kernel)) ggL_law_X6_sheet
set_option maxRecDepth 20000 in
theorem ggL_law_X7_sheet : GoodIn wsL_law wsX7_sheet := goodIn_r _ [164, 165, 166, 167, 168, 99, 100, 102, 169, 170, 5, 171, 172, 126, 127, 128, 173, 174, 175, 176, 177, 796, 797, 798, 799, 800, 801, 802, 803, 804, 805, 806, 807, 808, 809, 810, 811, 812, 813, 814, 815, 816, 817, 818, 819, 820, 821, 822, 823] (by decide +kernel) (by decide +kernel)
set_option maxRecDepth 20000 in
theorem gL_law_X7_sheet : GoodIn wsL_law (wsV RL 25 RX7 yX7_sheet wsX7_sheet) := goodIn_app (goodIn_of _ (by decide +kernel)) ggL_law_X7_sheet
set_option maxRecDepth 20000 in
theorem ggL_law_X6_set : GoodIn wsL_law wsX6_set := goodIn_r _ [181, 182, 19, 183, 38, 139, 140, 2, 141, 142, 143, 144, 145, 146, 184, 185, 186, 138, 187, 156, 188, 189, 190, 191, 151, 786, 787, 788, 789, 790, 791, 792, 793, 794, 795, 854, 855] (by decide +kernel) (by decide +kernel)
set_option maxRecDepth 20000 in
theorem gL_law_X6_set : GoodIn wsL_law (wsV RL 28 RX6 yX6_set wsX6_set) := goodIn_app (goodIn_of _ (by decide +kernel)) ggL_law_X6_set
set_option maxRecDepth 20000 in
theorem ggL_law_X7_set : GoodIn wsL_law wsX7_set := goodIn_r _ [195, 165, 196, 168, 99, 100, 102, 169, 170, 5, 171, 172, 126, 127, 128, 173, 174, 175, 176, 177, 796, 797, 798, 799, 800, 801, 802, 803, 804, 805, 806, 807, 808, 809, 810, 811, 812, 813, 814, 815, 816, 817, 818, 819, 820, 821, 822, 823] (by decide +kernel) (by decide +kernel)
set_option maxRecDepth 20000 in
theorem gL_law_X7_set : GoodIn wsL_law (wsV RL 32 RX7 yX7_set wsX7_set) := goodIn_app (goodIn_of _ (by decide +kernel)) ggL_law_X7_set
set_option maxRecDepth 20000 in
theorem ggL_law_X6_copy : GoodIn wsL_law wsX6_copy := goodIn_r _ [200, 136, 19, 201, 183, 202, 203, 204, 205, 139, 140, 2, 141, 142, 143, 144, 145, 38, 146, 184, 185, 186, 138, 187, 156, 157, 158, 159, 160, 786, 787, 788, 789, 790, 791, 792, 793, 794, 795, 854, 855] (by decide +kernel) (by decide +kernel)
set_option maxRecDepth 20000 in
theorem gL_law_X6_copy : GoodIn wsL_law (wsV RL 33 RX6 yX6_copy wsX6_copy) := goodIn_app (goodIn_of _ (by decide +kernel)) ggL_law_X6_copy
set_option maxRecDepth 20000 in
theorem ggL_law_X7_copy : GoodIn wsL_law wsX7_copy := goodIn_r _ [209, 165, 167, 168, 99, 100, 102, 169, 170, 5, 171, 172, 126, 127, 128, 173, 174, 175, 176, 177, 796, 797, 798, 799, 800, 801, 802, 803, 804, 805, 806, 807, 808, 809, 810, 811, 812, 813, 814, 815, 816, 817, 818, 819, 820, 821, 822, 823] (by decide +kernel) (by decide +kernel)
set_option maxRecDepth 20000 in
theorem gL_law_X7_copy : GoodIn wsL_law (wsV RL 37 RX7 yX7_copy wsX7_copy) := goodIn_app (goodIn_of _ (by decide +kernel)) ggL_law_X7_copy
set_option maxRecDepth 20000 in
theorem ggL_law_X6_drop : GoodIn wsL_law wsX6_drop := goodIn_r _ [213, 136, 19, 183, 139, 140, 2, 141, 142, 143, 144, 145, 38, 146, 157, 158, 159, 160, 786, 787, 788, 789, 790, 791, 792, 793, 794, 795, 854, 855] (by decide +kernel) (by decide +kernel)
set_option maxRecDepth 20000 in
theorem gL_law_X6_drop : GoodIn wsL_law (wsV RL 38 RX6 yX6_drop wsX6_drop) := goodIn_app (goodIn_of _ (by decide +kernel)) ggL_law_X6_drop
set_option maxRecDepth 20000 in
theorem ggL_law_X7_drop : GoodIn wsL_law wsX7_drop := goodIn_r _ [217, 165, 167, 168, 99, 100, 169, 170, 5, 171, 172, 126, 127, 128, 173, 174, 175, 176, 177, 796, 797, 798, 799, 800, 801, 802, 803, 804, 805, 806, 807, 808, 809, 810, 811, 812, 813, 814, 815, 816, 817, 818, 819, 820, 821, 822, 823] (by decide +kernel) (by decide +kernel)
set_option maxRecDepth 20000 in
theorem gL_law_X7_drop : GoodIn wsL_law (wsV RL 42 RX7 yX7_drop wsX7_drop) := goodIn_app (goodIn_of _ (by decide +kernel)) ggL_law_X7_drop
set_option maxRecDepth 20000 in
theorem ggL_law_X6_map : GoodIn wsL_law wsX6_map := goodIn_r _ [221, 136, 19, 22, 183, 17, 222, 223, 2, 224, 139, 140, 141, 142, 143, 144, 145, 38, 146, 184, 185, 186, 138, 187, 156, 225, 226, 227, 228, 229, 230, 231, 232, 20, 233, 234, 21, 235, 236, 237, 238, 239, 15, 16, 240, 241, 242, 243, 244, 245, 246, 247, 248, 249, 157, 158, 159, 160, 786, 787, 788, 789, 790, 791, 792, 793, 794, 795, 854, 855, 856, 857, 858, 859] (by decide +kernel) (by decide +kernel)
set_option maxRecDepth 20000 in
theorem gL_law_X6_map : GoodIn wsL_law (wsV RL 43 RX6 yX6_map wsX6_map) := goodIn_app (goodIn_of _ (by decide +kernel)) ggL_law_X6_map
set_option maxRecDepth 20000 in
theorem ggL_law_X7_map : GoodIn wsL_law wsX7_map := goodIn_r _ [253, 165, 254, 167, 99, 100, 105, 102, 255, 256, 5, 257, 258, 126, 127, 128, 169, 170, 171, 172, 173, 174, 175, 176, 168, 177, 259, 260, 261, 262, 125, 263, 264, 265, 266, 103, 104, 267, 268, 269, 270, 796, 797, 798, 799, 800, 801, 802, 803, 804, 805, 806, 807, 808, 809, 810, 811, 812, 813, 814, 815, 816, 817, 818, 819, 820, 821, 822, 823] (by decide +kernel) (by decide +kernel)
set_option maxRecDepth 20000 in
theorem gL_law_X7_map : GoodIn wsL_law (wsV RL 47 RX7 yX7_map wsX7_map) := goodIn_app (goodIn_of _ (by decide +kernel)) ggL_law_X7_map
set_option maxRecDepth 20000 in
theorem ggL_law_X6_plain : GoodIn wsL_law wsX6_plain := goodIn_r _ [274, 136, 22, 17, 222, 223, 2, 224, 275, 276, 227, 277, 229, 230, 231, 232, 20, 233, 234, 21, 235, 236, 237, 238, 239, 15, 16, 240, 241, 242, 243, 244, 245, 246, 247, 248, 249, 157, 158, 159, 160, 38, 786, 787, 788, 789, 790, 791, 792, 793, 794, 795, 856, 857, 858, 859] (by decide +kernel) (by decide +kernel)
set_option maxRecDepth 20000 in
theorem gL_law_X6_plain : GoodIn wsL_law (wsV RL 48 RX6 yX6_plain wsX6_plain) := goodIn_app (goodIn_of _ (by decide +kernel)) ggL_law_X6_plain
