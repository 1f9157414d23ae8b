set_option maxRecDepth 20000 in
theorem ggL_law_X7_plain : GoodIn wsL_law wsX7_plain := goodIn_r _ [281, 165, 167, 105, 255, 256, 5, 257, 258, 126, 127, 128, 259, 260, 261, 262, 125, 263, 264, 265, 266, 168, 103, 104, 267, 268, 269, 270, 796, 797, 798, 799, 800, 801, 802, 803, 804, 805, 806, 807, 808, 809, 810, 811, 812, 813, 814, 815, 816, 817, 818, 819, 820, 821, 822, 823] (by decide +kernel) (by decide +kernel)
set_option maxRecDepth 20000 in
theorem gL_law_X7_plain : GoodIn wsL_law (wsV RL 52 RX7 yX7_plain wsX7_plain) := goodIn_app (goodIn_of _ (by decide +kernel)) ggL_law_X7_plain
set_option maxRecDepth 20000 in
theorem ggL_law_X6_turn : GoodIn wsL_law wsX6_turn := goodIn_r _ [285, 17, 136, 21, 275, 276, 227, 277, 222, 223, 2, 224, 142, 143, 144, 145, 38, 146, 286, 287, 288, 234, 289, 22, 240, 290, 291, 292, 293, 241, 242, 294, 295, 296, 297, 298, 299, 300, 301, 302, 154, 303, 304, 153, 155, 305, 306, 307, 229, 230, 231, 232, 20, 233, 235, 236, 237, 238, 239, 15, 16, 243, 244, 245, 246, 247, 248, 249, 157, 158, 159, 160, 786, 787, 788, 789, 790, 791, 792, 793, 794, 795, 856, 857, 858, 859] (by decide +kernel) (by decide +kernel)
set_option maxRecDepth 20000 in
theorem gL_law_X6_turn : GoodIn wsL_law (wsV RL 53 RX6 yX6_turn wsX6_turn) := goodIn_app (goodIn_of _ (by decide +kernel)) ggL_law_X6_turn
set_option maxRecDepth 20000 in
theorem ggL_law_X7_turn : GoodIn wsL_law wsX7_turn := goodIn_r _ [311, 165, 167, 103, 106, 105, 125, 255, 256, 5, 257, 258, 126, 127, 128, 259, 260, 261, 262, 173, 174, 175, 176, 168, 177, 312, 313, 314, 315, 107, 104, 316, 317, 318, 319, 263, 264, 265, 266, 267, 268, 269, 270, 796, 797, 798, 799, 800, 801, 802, 803, 804, 805, 806, 807, 808, 809, 810, 811, 812, 813, 814, 815, 816, 817, 818, 819, 820, 821, 822, 823] (by decide +kernel) (by decide +kernel)
set_option maxRecDepth 20000 in
theorem gL_law_X7_turn : GoodIn wsL_law (wsV RL 56 RX7 yX7_turn wsX7_turn) := goodIn_app (goodIn_of _ (by decide +kernel)) ggL_law_X7_turn
set_option maxRecDepth 20000 in
theorem ggL_law_X6_behind : GoodIn wsL_law wsX6_behind := goodIn_r _ [323, 136, 21, 324, 325, 22, 326, 222, 223, 2, 224, 142, 143, 144, 145, 38, 146, 327, 291, 292, 234, 293, 241, 242, 240, 294, 295, 296, 297, 298, 299, 300, 301, 302, 154, 303, 304, 153, 155, 229, 230, 231, 232, 20, 233, 17, 235, 236, 237, 238, 239, 15, 16, 243, 244, 245, 246, 247, 248, 249, 157, 158, 159, 160, 786, 787, 788, 789, 790, 791, 792, 793, 794, 795, 856, 857, 858, 859] (by decide +kernel) (by decide +kernel)
set_option maxRecDepth 20000 in
theorem gL_law_X6_behind : GoodIn wsL_law (wsV RL 57 RX6 yX6_behind wsX6_behind) := goodIn_app (goodIn_of _ (by decide +kernel)) ggL_law_X6_behind
set_option maxRecDepth 20000 in
theorem ggL_law_X7_behind : GoodIn wsL_law wsX7_behind := goodIn_r _ [331, 165, 167, 103, 332, 106, 104, 255, 256, 5, 257, 258, 126, 127, 128, 173, 174, 175, 176, 168, 177, 312, 313, 314, 315, 105, 107, 125, 263, 264, 265, 266, 267, 268, 269, 270, 796, 797, 798, 799, 800, 801, 802, 803, 804, 805, 806, 807, 808, 809, 810, 811, 812, 813, 814, 815, 816, 817, 818, 819, 820, 821, 822, 823] (by decide +kernel) (by decide +kernel)
set_option maxRecDepth 20000 in
theorem gL_law_X7_behind : GoodIn wsL_law (wsV RL 60 RX7 yX7_behind wsX7_behind) := goodIn_app (goodIn_of _ (by decide +kernel)) ggL_law_X7_behind
set_option maxRecDepth 20000 in
theorem ggL_law_X6_clear : GoodIn wsL_law wsX6_clear := goodIn_r _ [336, 136, 21, 222, 223, 2, 224, 786, 787, 788, 789, 790, 791, 792, 793, 794, 795] (by decide +kernel) (by decide +kernel)
set_option maxRecDepth 20000 in
theorem gL_law_X6_clear : GoodIn wsL_law (wsV RL 61 RX6 yX6_clear wsX6_clear) := goodIn_app (goodIn_of _ (by decide +kernel)) ggL_law_X6_clear
set_option maxRecDepth 20000 in
theorem ggL_law_X7_clear : GoodIn wsL_law wsX7_clear := goodIn_r _ [340, 165, 167, 103, 255, 256, 5, 257, 258, 126, 127, 128, 796, 797, 798, 799, 800, 801, 802, 803, 804, 805, 806, 807, 808, 809, 810, 811, 812, 813, 814, 815, 816, 817, 818, 819, 820, 821, 822, 823] (by decide +kernel) (by decide +kernel)
set_option maxRecDepth 20000 in
theorem gL_law_X7_clear : GoodIn wsL_law (wsV RL 64 RX7 yX7_clear wsX7_clear) := goodIn_app (goodIn_of _ (by decide +kernel)) ggL_law_X7_clear
set_option maxRecDepth 20000 in
theorem ggL_law_X6_number : GoodIn wsL_law wsX6_number := goodIn_r _ [344, 136, 21, 324, 326, 222, 223, 2, 224, 142, 143, 144, 145, 38, 146, 157, 158, 159, 160, 786, 787, 788, 789, 790, 791, 792, 793, 794, 795, 856, 857, 858, 859] (by decide +kernel) (by decide +kernel)
set_option maxRecDepth 20000 in
theorem gL_law_X6_number : GoodIn wsL_law (wsV RL 65 RX6 yX6_number wsX6_number) := goodIn_app (goodIn_of _ (by decide +kernel)) ggL_law_X6_number
set_option maxRecDepth 20000 in
theorem ggL_law_X7_number : GoodIn wsL_law wsX7_number := goodIn_r _ [348, 165, 349, 350, 167, 103, 104, 255, 256, 5, 257, 258, 126, 127, 128, 351, 352, 353, 354, 168, 173, 174, 175, 176, 177, 796, 797, 798, 799, 800, 801, 802, 803, 804, 805, 806, 807, 808, 809, 810, 811, 812, 813, 814, 815, 816, 817, 818, 819, 820, 821, 822, 823] (by decide +kernel) (by decide +kernel)
set_option maxRecDepth 20000 in
theorem gL_law_X7_number : GoodIn wsL_law (wsV RL 68 RX7 yX7_number wsX7_number) := goodIn_app (goodIn_of _ (by decide +kernel)) ggL_law_X7_number
set_option maxRecDepth 20000 in
theorem ggL_law_X6_kind : GoodIn wsL_law wsX6_kind := goodIn_r _ [358, 136, 21, 235, 222, 223, 2, 224, 142, 143, 144, 145, 38, 146, 157, 158, 159, 160, 786, 787, 788, 789, 790, 791, 792, 793, 794, 795, 856, 857, 858, 859] (by decide +kernel) (by decide +kernel)
set_option maxRecDepth 20000 in
theorem gL_law_X6_kind : GoodIn wsL_law (wsV RL 69 RX6 yX6_kind wsX6_kind) := goodIn_app (goodIn_of _ (by decide +kernel)) ggL_law_X6_kind
set_option maxRecDepth 20000 in
theorem ggL_law_X7_kind : GoodIn wsL_law wsX7_kind := goodIn_r _ [362, 165, 167, 255, 256, 5, 257, 258, 126, 127, 128, 351, 352, 353, 354, 168, 103, 173, 174, 175, 176, 177, 267, 268, 269, 270, 104, 796, 797, 798, 799, 800, 801, 802, 803, 804, 805, 806, 807, 808, 809, 810, 811, 812, 813, 814, 815, 816, 817, 818, 819, 820, 821, 822, 823] (by decide +kernel) (by decide +kernel)
set_option maxRecDepth 20000 in
theorem gL_law_X7_kind : GoodIn wsL_law (wsV RL 72 RX7 yX7_kind wsX7_kind) := goodIn_app (goodIn_of _ (by decide +kernel)) ggL_law_X7_kind
set_option maxRecDepth 20000 in
theorem ggL_law_X6_is : GoodIn wsL_law wsX6_is := goodIn_r _ [366, 136, 21, 222, 223, 2, 224, 367, 368, 369, 370, 371, 372, 234, 373, 243, 786, 787, 788, 789, 790, 791, 792, 793, 794, 795, 856, 857, 858, 859] (by decide +kernel) (by decide +kernel)
set_option maxRecDepth 20000 in
theorem gL_law_X6_is : GoodIn wsL_law (wsV RL 73 RX6 yX6_is wsX6_is) := goodIn_app (goodIn_of _ (by decide +kernel)) ggL_law_X6_is
set_option maxRecDepth 20000 in
theorem ggL_law_X7_is : GoodIn wsL_law wsX7_is := goodIn_r _ [377, 165, 254, 167, 103, 255, 256, 5, 257, 258, 126, 127, 128, 267, 268, 269, 270, 104, 378, 379, 380, 796, 797, 798, 799, 800, 801, 802, 803, 804, 805, 806, 807, 808, 809, 810, 811, 812, 813, 814, 815, 816, 817, 818, 819, 820, 821, 822, 823] (by decide +kernel) (by decide +kernel)
set_option maxRecDepth 20000 in
theorem gL_law_X7_is : GoodIn wsL_law (wsV RL 76 RX7 yX7_is wsX7_is) := goodIn_app (goodIn_of _ (by decide +kernel)) ggL_law_X7_is
set_option maxRecDepth 20000 in
theorem ggL_law_X6_as : GoodIn wsL_law wsX6_as := goodIn_r _ [384, 136, 21, 324, 222, 223, 2, 224, 367, 368, 369, 142, 143, 144, 145, 38, 146, 370, 371, 372, 234, 373, 243, 157, 158, 159, 160, 786, 787, 788, 789, 790, 791, 792, 793, 794, 795, 856, 857, 858, 859] (by decide +kernel) (by decide +kernel)
set_option maxRecDepth 20000 in
theorem gL_law_X6_as : GoodIn wsL_law (wsV RL 77 RX6 yX6_as wsX6_as) := goodIn_app (goodIn_of _ (by decide +kernel)) ggL_law_X6_as
