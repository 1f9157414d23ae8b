set_option maxRecDepth 20000 in
theorem ggL_law_X7_plain : GoodIn wsL_law wsX7_plain := goodIn_r _ [280, 164, 166, 104, 254, 255, 5, 256, 257, 125, 126, 127, 258, 259, 260, 261, 124, 262, 263, 264, 265, 167, 102, 103, 266, 267, 268, 269, 807, 808, 809, 810, 811, 812, 813, 814, 815, 816, 817, 818, 819, 820, 821, 822, 823, 824, 825, 826, 827, 828, 829, 830, 831, 832, 833, 834] (by decide +kernel) (by decide +kernel)
set_option maxRecDepth 20000 in
theorem gL_law_X7_plain : GoodIn wsL_law (wsV RL 52 RX7 yX7_plain wsX7_plain) := goodIn_app (goodIn_of _ (by decide +kernel)) ggL_law_X7_plain
set_option maxRecDepth 20000 in
theorem ggL_law_X6_turn : GoodIn wsL_law wsX6_turn := goodIn_r _ [284, 17, 135, 21, 274, 275, 226, 276, 221, 222, 2, 223, 141, 142, 143, 144, 38, 145, 285, 286, 287, 233, 288, 22, 239, 289, 290, 291, 292, 240, 241, 293, 294, 295, 296, 297, 298, 299, 300, 301, 153, 302, 303, 152, 154, 304, 305, 306, 228, 229, 230, 231, 20, 232, 234, 235, 236, 237, 238, 15, 16, 242, 243, 244, 245, 246, 247, 248, 156, 157, 158, 159, 797, 798, 799, 800, 801, 802, 803, 804, 805, 806, 867, 868, 869, 870] (by decide +kernel) (by decide +kernel)
set_option maxRecDepth 20000 in
theorem gL_law_X6_turn : GoodIn wsL_law (wsV RL 53 RX6 yX6_turn wsX6_turn) := goodIn_app (goodIn_of _ (by decide +kernel)) ggL_law_X6_turn
set_option maxRecDepth 20000 in
theorem ggL_law_X7_turn : GoodIn wsL_law wsX7_turn := goodIn_r _ [310, 164, 166, 102, 105, 104, 124, 254, 255, 5, 256, 257, 125, 126, 127, 258, 259, 260, 261, 172, 173, 174, 175, 167, 176, 311, 312, 313, 314, 106, 103, 315, 316, 317, 318, 262, 263, 264, 265, 266, 267, 268, 269, 807, 808, 809, 810, 811, 812, 813, 814, 815, 816, 817, 818, 819, 820, 821, 822, 823, 824, 825, 826, 827, 828, 829, 830, 831, 832, 833, 834] (by decide +kernel) (by decide +kernel)
set_option maxRecDepth 20000 in
theorem gL_law_X7_turn : GoodIn wsL_law (wsV RL 56 RX7 yX7_turn wsX7_turn) := goodIn_app (goodIn_of _ (by decide +kernel)) ggL_law_X7_turn
set_option maxRecDepth 20000 in
theorem ggL_law_X6_behind : GoodIn wsL_law wsX6_behind := goodIn_r _ [322, 135, 21, 323, 324, 22, 325, 221, 222, 2, 223, 141, 142, 143, 144, 38, 145, 326, 290, 291, 233, 292, 240, 241, 239, 293, 294, 295, 296, 297, 298, 299, 300, 301, 153, 302, 303, 152, 154, 228, 229, 230, 231, 20, 232, 17, 234, 235, 236, 237, 238, 15, 16, 242, 243, 244, 245, 246, 247, 248, 156, 157, 158, 159, 797, 798, 799, 800, 801, 802, 803, 804, 805, 806, 867, 868, 869, 870] (by decide +kernel) (by decide +kernel)
set_option maxRecDepth 20000 in
theorem gL_law_X6_behind : GoodIn wsL_law (wsV RL 57 RX6 yX6_behind wsX6_behind) := goodIn_app (goodIn_of _ (by decide +kernel)) ggL_law_X6_behind
set_option maxRecDepth 20000 in
theorem ggL_law_X7_behind : GoodIn wsL_law wsX7_behind := goodIn_r _ [330, 164, 166, 102, 331, 105, 103, 254, 255, 5, 256, 257, 125, 126, 127, 172, 173, 174, 175, 167, 176, 311, 312, 313, 314, 104, 106, 124, 262, 263, 264, 265, 266, 267, 268, 269, 807, 808, 809, 810, 811, 812, 813, 814, 815, 816, 817, 818, 819, 820, 821, 822, 823, 824, 825, 826, 827, 828, 829, 830, 831, 832, 833, 834] (by decide +kernel) (by decide +kernel)
set_option maxRecDepth 20000 in
theorem gL_law_X7_behind : GoodIn wsL_law (wsV RL 60 RX7 yX7_behind wsX7_behind) := goodIn_app (goodIn_of _ (by decide +kernel)) ggL_law_X7_behind
set_option maxRecDepth 20000 in
theorem ggL_law_X6_clear : GoodIn wsL_law wsX6_clear := goodIn_r _ [335, 135, 21, 221, 222, 2, 223, 797, 798, 799, 800, 801, 802, 803, 804, 805, 806] (by decide +kernel) (by decide +kernel)
set_option maxRecDepth 20000 in
theorem gL_law_X6_clear : GoodIn wsL_law (wsV RL 61 RX6 yX6_clear wsX6_clear) := goodIn_app (goodIn_of _ (by decide +kernel)) ggL_law_X6_clear
set_option maxRecDepth 20000 in
theorem ggL_law_X7_clear : GoodIn wsL_law wsX7_clear := goodIn_r _ [339, 164, 166, 102, 254, 255, 5, 256, 257, 125, 126, 127, 807, 808, 809, 810, 811, 812, 813, 814, 815, 816, 817, 818, 819, 820, 821, 822, 823, 824, 825, 826, 827, 828, 829, 830, 831, 832, 833, 834] (by decide +kernel) (by decide +kernel)
set_option maxRecDepth 20000 in
theorem gL_law_X7_clear : GoodIn wsL_law (wsV RL 64 RX7 yX7_clear wsX7_clear) := goodIn_app (goodIn_of _ (by decide +kernel)) ggL_law_X7_clear
set_option maxRecDepth 20000 in
theorem ggL_law_X6_number : GoodIn wsL_law wsX6_number := goodIn_r _ [343, 135, 21, 323, 325, 221, 222, 2, 223, 141, 142, 143, 144, 38, 145, 156, 157, 158, 159, 797, 798, 799, 800, 801, 802, 803, 804, 805, 806, 867, 868, 869, 870] (by decide +kernel) (by decide +kernel)
set_option maxRecDepth 20000 in
theorem gL_law_X6_number : GoodIn wsL_law (wsV RL 65 RX6 yX6_number wsX6_number) := goodIn_app (goodIn_of _ (by decide +kernel)) ggL_law_X6_number
set_option maxRecDepth 20000 in
theorem ggL_law_X7_number : GoodIn wsL_law wsX7_number := goodIn_r _ [347, 164, 348, 349, 166, 102, 103, 254, 255, 5, 256, 257, 125, 126, 127, 350, 351, 352, 353, 167, 172, 173, 174, 175, 176, 807, 808, 809, 810, 811, 812, 813, 814, 815, 816, 817, 818, 819, 820, 821, 822, 823, 824, 825, 826, 827, 828, 829, 830, 831, 832, 833, 834] (by decide +kernel) (by decide +kernel)
set_option maxRecDepth 20000 in
theorem gL_law_X7_number : GoodIn wsL_law (wsV RL 68 RX7 yX7_number wsX7_number) := goodIn_app (goodIn_of _ (by decide +kernel)) ggL_law_X7_number
set_option maxRecDepth 20000 in
theorem ggL_law_X6_kind : GoodIn wsL_law wsX6_kind := goodIn_r _ [357, 135, 21, 234, 221, 222, 2, 223, 141, 142, 143, 144, 38, 145, 156, 157, 158, 159, 797, 798, 799, 800, 801, 802, 803, 804, 805, 806, 867, 868, 869, 870] (by decide +kernel) (by decide +kernel)
set_option maxRecDepth 20000 in
theorem gL_law_X6_kind : GoodIn wsL_law (wsV RL 69 RX6 yX6_kind wsX6_kind) := goodIn_app (goodIn_of _ (by decide +kernel)) ggL_law_X6_kind
set_option maxRecDepth 20000 in
theorem ggL_law_X7_kind : GoodIn wsL_law wsX7_kind := goodIn_r _ [361, 164, 166, 254, 255, 5, 256, 257, 125, 126, 127, 350, 351, 352, 353, 167, 102, 172, 173, 174, 175, 176, 266, 267, 268, 269, 103, 807, 808, 809, 810, 811, 812, 813, 814, 815, 816, 817, 818, 819, 820, 821, 822, 823, 824, 825, 826, 827, 828, 829, 830, 831, 832, 833, 834] (by decide +kernel) (by decide +kernel)
set_option maxRecDepth 20000 in
theorem gL_law_X7_kind : GoodIn wsL_law (wsV RL 72 RX7 yX7_kind wsX7_kind) := goodIn_app (goodIn_of _ (by decide +kernel)) ggL_law_X7_kind
set_option maxRecDepth 20000 in
theorem ggL_law_X6_is : GoodIn wsL_law wsX6_is := goodIn_r _ [365, 135, 21, 221, 222, 2, 223, 366, 367, 368, 369, 370, 371, 233, 372, 242, 797, 798, 799, 800, 801, 802, 803, 804, 805, 806, 867, 868, 869, 870] (by decide +kernel) (by decide +kernel)
set_option maxRecDepth 20000 in
theorem gL_law_X6_is : GoodIn wsL_law (wsV RL 73 RX6 yX6_is wsX6_is) := goodIn_app (goodIn_of _ (by decide +kernel)) ggL_law_X6_is
set_option maxRecDepth 20000 in
theorem ggL_law_X7_is : GoodIn wsL_law wsX7_is := goodIn_r _ [376, 164, 253, 166, 102, 254, 255, 5, 256, 257, 125, 126, 127, 266, 267, 268, 269, 103, 377, 378, 379, 807, 808, 809, 810, 811, 812, 813, 814, 815, 816, 817, 818, 819, 820, 821, 822, 823, 824, 825, 826, 827, 828, 829, 830, 831, 832, 833, 834] (by decide +kernel) (by decide +kernel)
set_option maxRecDepth 20000 in
theorem gL_law_X7_is : GoodIn wsL_law (wsV RL 76 RX7 yX7_is wsX7_is) := goodIn_app (goodIn_of _ (by decide +kernel)) ggL_law_X7_is
set_option maxRecDepth 20000 in
theorem ggL_law_X6_as : GoodIn wsL_law wsX6_as := goodIn_r _ [383, 135, 21, 323, 221, 222, 2, 223, 366, 367, 368, 141, 142, 143, 144, 38, 145, 369, 370, 371, 233, 372, 242, 156, 157, 158, 159, 797, 798, 799, 800, 801, 802, 803, 804, 805, 806, 867, 868, 869, 870] (by decide +kernel) (by decide +kernel)
set_option maxRecDepth 20000 in
theorem gL_law_X6_as : GoodIn wsL_law (wsV RL 77 RX6 yX6_as wsX6_as) := goodIn_app (goodIn_of _ (by decide +kernel)) ggL_law_X6_as
