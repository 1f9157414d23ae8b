set_option maxRecDepth 20000 in
theorem ggL_law_X7_as : GoodIn wsL_law wsX7_as := goodIn_r _ [388, 165, 254, 167, 103, 255, 256, 5, 257, 258, 126, 127, 128, 351, 352, 353, 354, 168, 173, 174, 175, 176, 177, 267, 268, 269, 270, 104, 378, 379, 380, 796, 797, 798, 799, 800, 801, 802, 803, 804, 805, 806, 807, 808, 809, 810, 811, 812, 813, 814, 815, 816, 817, 818, 819, 820, 821, 822, 823] (by decide +kernel) (by decide +kernel)
set_option maxRecDepth 20000 in
theorem gL_law_X7_as : GoodIn wsL_law (wsV RL 80 RX7 yX7_as wsX7_as) := goodIn_app (goodIn_of _ (by decide +kernel)) ggL_law_X7_as
set_option maxRecDepth 20000 in
theorem ggL_law_X6_ask : GoodIn wsL_law wsX6_ask := goodIn_r _ [392, 136, 37, 21, 27, 222, 223, 2, 224, 142, 143, 144, 145, 38, 146, 393, 394, 395, 26, 396, 61, 51, 46, 50, 397, 52, 398, 56, 399, 295, 296, 297, 400, 401, 402, 234, 403, 242, 241, 240, 404, 405, 406, 49, 407, 69, 66, 408, 409, 410, 411, 412, 71, 67, 413, 414, 415, 416, 417, 418, 419, 420, 68, 70, 421, 422, 423, 424, 425, 426, 427, 428, 60, 429, 430, 431, 432, 433, 434, 435, 53, 54, 55, 436, 437, 438, 439, 440, 441, 442, 443, 235, 444, 445, 446, 447, 17, 448, 449, 450, 451, 23, 452, 453, 454, 455, 456, 457, 458, 459, 460, 461, 462, 463, 464, 465, 466, 467, 468, 469, 470, 471, 472, 473, 474, 475, 476, 477, 478, 479, 480, 481, 326, 482, 483, 484, 485, 486, 487, 488, 489, 157, 158, 159, 160, 786, 787, 788, 789, 790, 791, 792, 793, 794, 795, 824, 825, 826, 827, 828, 829, 830, 831, 832, 833, 834, 835, 848, 849, 850, 851, 852, 853, 856, 857, 858, 859] (by decide +kernel) (by decide +kernel)
set_option maxRecDepth 20000 in
theorem gL_law_X6_ask : GoodIn wsL_law (wsV RL 81 RX6 yX6_ask wsX6_ask) := goodIn_app (goodIn_of _ (by decide +kernel)) ggL_law_X6_ask
set_option maxRecDepth 20000 in
theorem ggL_law_X7_ask : GoodIn wsL_law wsX7_ask := goodIn_r _ [493, 165, 167, 494, 255, 256, 5, 257, 258, 126, 127, 128, 351, 352, 353, 354, 168, 103, 173, 174, 175, 176, 177, 495, 496, 497, 498, 125, 267, 268, 269, 270, 104, 499, 500, 501, 502, 114, 378, 379, 380, 503, 504, 505, 506, 507, 508, 509, 510, 112, 511, 512, 513, 514, 108, 113, 109, 110, 111, 515, 516, 517, 518, 519, 520, 521, 522, 796, 797, 798, 799, 800, 801, 802, 803, 804, 805, 806, 807, 808, 809, 810, 811, 812, 813, 814, 815, 816, 817, 818, 819, 820, 821, 822, 823] (by decide +kernel) (by decide +kernel)
set_option maxRecDepth 20000 in
theorem gL_law_X7_ask : GoodIn wsL_law (wsV RL 84 RX7 yX7_ask wsX7_ask) := goodIn_app (goodIn_of _ (by decide +kernel)) ggL_law_X7_ask
set_option maxRecDepth 20000 in
theorem ggL_law_X6_trace : GoodIn wsL_law wsX6_trace := goodIn_r _ [526, 37, 23, 527, 786, 787, 788, 789, 790, 791, 792, 793, 794, 795] (by decide +kernel) (by decide +kernel)
set_option maxRecDepth 20000 in
theorem gL_law_X6_trace : GoodIn wsL_law (wsV RL 85 RX6 yX6_trace wsX6_trace) := goodIn_app (goodIn_of _ (by decide +kernel)) ggL_law_X6_trace
set_option maxRecDepth 20000 in
theorem ggL_law_X7_trace : GoodIn wsL_law wsX7_trace := goodIn_r _ [531, 165, 494, 114, 532, 126, 127, 5, 128, 796, 797, 798, 799, 800, 801, 802, 803, 804, 805, 806, 807, 808, 809, 810, 811, 812, 813, 814, 815, 816, 817, 818, 819, 820, 821, 822, 823] (by decide +kernel) (by decide +kernel)
set_option maxRecDepth 20000 in
theorem gL_law_X7_trace : GoodIn wsL_law (wsV RL 88 RX7 yX7_trace wsX7_trace) := goodIn_app (goodIn_of _ (by decide +kernel)) ggL_law_X7_trace
set_option maxRecDepth 20000 in
theorem ggL_law_X6_step : GoodIn wsL_law wsX6_step := goodIn_r _ [536, 537, 136, 21, 472, 222, 223, 2, 224, 538, 539, 540, 541, 17, 142, 143, 144, 145, 38, 146, 542, 543, 544, 545, 27, 393, 394, 395, 26, 396, 61, 51, 46, 50, 397, 52, 398, 56, 399, 295, 296, 297, 400, 401, 402, 234, 403, 242, 241, 240, 404, 405, 406, 49, 407, 69, 66, 408, 409, 410, 411, 412, 71, 67, 413, 414, 415, 416, 417, 418, 419, 420, 68, 70, 421, 422, 423, 424, 425, 426, 427, 428, 60, 429, 430, 431, 432, 433, 434, 435, 53, 54, 55, 436, 437, 438, 439, 546, 547, 548, 549, 157, 158, 159, 160, 786, 787, 788, 789, 790, 791, 792, 793, 794, 795, 824, 825, 826, 827, 828, 829, 830, 831, 832, 833, 834, 835, 848, 849, 850, 851, 852, 853, 856, 857, 858, 859] (by decide +kernel) (by decide +kernel)
set_option maxRecDepth 20000 in
theorem gL_law_X6_step : GoodIn wsL_law (wsV RL 89 RX6 yX6_step wsX6_step) := goodIn_app (goodIn_of _ (by decide +kernel)) ggL_law_X6_step
set_option maxRecDepth 20000 in
theorem ggL_law_X7_step : GoodIn wsL_law wsX7_step := goodIn_r _ [553, 165, 125, 554, 167, 109, 110, 108, 255, 256, 5, 257, 258, 126, 127, 128, 351, 352, 353, 354, 168, 103, 173, 174, 175, 176, 177, 511, 512, 513, 514, 112, 113, 111, 515, 516, 517, 518, 104, 796, 797, 798, 799, 800, 801, 802, 803, 804, 805, 806, 807, 808, 809, 810, 811, 812, 813, 814, 815, 816, 817, 818, 819, 820, 821, 822, 823] (by decide +kernel) (by decide +kernel)
set_option maxRecDepth 20000 in
theorem gL_law_X7_step : GoodIn wsL_law (wsV RL 92 RX7 yX7_step wsX7_step) := goodIn_app (goodIn_of _ (by decide +kernel)) ggL_law_X7_step
set_option maxRecDepth 20000 in
theorem ggL_law_X6_way : GoodIn wsL_law wsX6_way := goodIn_r _ [558, 136, 21, 222, 223, 2, 224, 538, 539, 540, 541, 17, 142, 143, 144, 145, 38, 146, 542, 543, 544, 545, 27, 393, 394, 395, 26, 396, 61, 51, 46, 50, 397, 52, 398, 56, 399, 295, 296, 297, 400, 401, 402, 234, 403, 242, 241, 240, 404, 405, 406, 49, 407, 69, 66, 408, 409, 410, 411, 412, 71, 67, 413, 414, 415, 416, 417, 418, 419, 420, 68, 70, 421, 422, 423, 424, 425, 426, 427, 428, 60, 429, 430, 431, 432, 433, 434, 435, 53, 54, 55, 436, 437, 438, 439, 559, 560, 561, 562, 157, 158, 159, 160, 786, 787, 788, 789, 790, 791, 792, 793, 794, 795, 824, 825, 826, 827, 828, 829, 830, 831, 832, 833, 834, 835, 848, 849, 850, 851, 852, 853, 856, 857, 858, 859] (by decide +kernel) (by decide +kernel)
set_option maxRecDepth 20000 in
theorem gL_law_X6_way : GoodIn wsL_law (wsV RL 93 RX6 yX6_way wsX6_way) := goodIn_app (goodIn_of _ (by decide +kernel)) ggL_law_X6_way
set_option maxRecDepth 20000 in
theorem ggL_law_X7_way : GoodIn wsL_law wsX7_way := goodIn_r _ [566, 165, 125, 123, 167, 109, 110, 111, 112, 255, 256, 5, 257, 258, 126, 127, 128, 351, 352, 353, 354, 168, 103, 173, 174, 175, 176, 177, 511, 512, 513, 514, 108, 113, 515, 516, 517, 518, 104, 567, 568, 569, 570, 796, 797, 798, 799, 800, 801, 802, 803, 804, 805, 806, 807, 808, 809, 810, 811, 812, 813, 814, 815, 816, 817, 818, 819, 820, 821, 822, 823] (by decide +kernel) (by decide +kernel)
set_option maxRecDepth 20000 in
theorem gL_law_X7_way : GoodIn wsL_law (wsV RL 96 RX7 yX7_way wsX7_way) := goodIn_app (goodIn_of _ (by decide +kernel)) ggL_law_X7_way
set_option maxRecDepth 20000 in
theorem ggL_law_X6_ring : GoodIn wsL_law wsX6_ring := goodIn_r _ [574, 136, 21, 222, 223, 2, 224, 142, 143, 144, 145, 38, 146, 542, 543, 544, 545, 27, 393, 394, 395, 26, 396, 61, 51, 46, 50, 397, 52, 398, 56, 399, 295, 296, 297, 400, 401, 402, 234, 403, 242, 241, 240, 404, 405, 406, 49, 407, 69, 66, 408, 409, 410, 411, 412, 71, 67, 413, 414, 415, 416, 417, 418, 419, 420, 68, 70, 421, 422, 423, 424, 425, 426, 427, 428, 60, 429, 430, 431, 432, 433, 434, 435, 53, 54, 55, 436, 437, 438, 439, 575, 576, 577, 578, 157, 158, 159, 160, 786, 787, 788, 789, 790, 791, 792, 793, 794, 795, 824, 825, 826, 827, 828, 829, 830, 831, 832, 833, 834, 835, 848, 849, 850, 851, 852, 853, 856, 857, 858, 859] (by decide +kernel) (by decide +kernel)
set_option maxRecDepth 20000 in
theorem gL_law_X6_ring : GoodIn wsL_law (wsV RL 97 RX6 yX6_ring wsX6_ring) := goodIn_app (goodIn_of _ (by decide +kernel)) ggL_law_X6_ring
set_option maxRecDepth 20000 in
theorem ggL_law_X7_ring : GoodIn wsL_law wsX7_ring := goodIn_r _ [582, 165, 123, 167, 532, 125, 109, 111, 110, 255, 256, 5, 257, 258, 126, 127, 128, 351, 352, 353, 354, 168, 103, 173, 174, 175, 176, 177, 511, 512, 513, 514, 108, 112, 113, 515, 516, 517, 518, 104, 583, 584, 585, 586, 587, 588, 589, 590, 796, 797, 798, 799, 800, 801, 802, 803, 804, 805, 806, 807, 808, 809, 810, 811, 812, 813, 814, 815, 816, 817, 818, 819, 820, 821, 822, 823] (by decide +kernel) (by decide +kernel)
set_option maxRecDepth 20000 in
theorem gL_law_X7_ring : GoodIn wsL_law (wsV RL 100 RX7 yX7_ring wsX7_ring) := goodIn_app (goodIn_of _ (by decide +kernel)) ggL_law_X7_ring
set_option maxRecDepth 20000 in
theorem ggL_law_X6_all : GoodIn wsL_law wsX6_all := goodIn_r _ [594, 136, 21, 222, 223, 2, 224, 142, 143, 144, 145, 38, 146, 542, 543, 544, 545, 27, 393, 394, 395, 26, 396, 61, 51, 46, 50, 397, 52, 398, 56, 399, 295, 296, 297, 400, 401, 402, 234, 403, 242, 241, 240, 404, 405, 406, 49, 407, 69, 66, 408, 409, 410, 411, 412, 71, 67, 413, 414, 415, 416, 417, 418, 419, 420, 68, 70, 421, 422, 423, 424, 425, 426, 427, 428, 60, 429, 430, 431, 432, 433, 434, 435, 53, 54, 55, 436, 437, 438, 439, 595, 596, 597, 598, 599, 600, 601, 602, 603, 604, 605, 606, 607, 153, 154, 155, 608, 609, 610, 611, 612, 461, 462, 463, 613, 614, 615, 616, 157, 158, 159, 160, 786, 787, 788, 789, 790, 791, 792, 793, 794, 795, 824, 825, 826, 827, 828, 829, 830, 831, 832, 833, 834, 835, 848, 849, 850, 851, 852, 853, 856, 857, 858, 859] (by decide +kernel) (by decide +kernel)
set_option maxRecDepth 20000 in
theorem gL_law_X6_all : GoodIn wsL_law (wsV RL 101 RX6 yX6_all wsX6_all) := goodIn_app (goodIn_of _ (by decide +kernel)) ggL_law_X6_all
set_option maxRecDepth 20000 in
theorem ggL_law_X7_all : GoodIn wsL_law wsX7_all := goodIn_r _ [620, 165, 254, 167, 125, 109, 111, 110, 112, 255, 256, 5, 257, 258, 126, 127, 128, 351, 352, 353, 354, 168, 103, 173, 174, 175, 176, 177, 511, 512, 513, 514, 108, 113, 515, 516, 517, 518, 104, 583, 584, 585, 586, 587, 588, 589, 590, 796, 797, 798, 799, 800, 801, 802, 803, 804, 805, 806, 807, 808, 809, 810, 811, 812, 813, 814, 815, 816, 817, 818, 819, 820, 821, 822, 823] (by decide +kernel) (by decide +kernel)
set_option maxRecDepth 20000 in
theorem gL_law_X7_all : GoodIn wsL_law (wsV RL 104 RX7 yX7_all wsX7_all) := goodIn_app (goodIn_of _ (by decide +kernel)) ggL_law_X7_all
set_option maxRecDepth 20000 in
theorem ggL_law_X6_alike : GoodIn wsL_law wsX6_alike := goodIn_r _ [624, 136, 21, 27, 28, 472, 222, 223, 2, 224, 142, 143, 144, 145, 38, 146, 393, 394, 395, 26, 396, 61, 51, 46, 50, 397, 52, 398, 56, 399, 295, 296, 297, 400, 401, 402, 234, 403, 242, 241, 240, 404, 405, 406, 49, 407, 69, 66, 408, 409, 410, 411, 412, 71, 67, 413, 414, 415, 416, 417, 418, 419, 420, 68, 70, 421, 422, 423, 424, 425, 426, 427, 428, 60, 429, 430, 431, 432, 433, 434, 435, 53, 54, 55, 436, 437, 438, 439, 625, 626, 627, 628, 59, 629, 630, 631, 632, 633, 634, 635, 57, 157, 158, 159, 160, 786, 787, 788, 789, 790, 791, 792, 793, 794, 795, 824, 825, 826, 827, 828, 829, 830, 831, 832, 833, 834, 835, 848, 849, 850, 851, 852, 853, 856, 857, 858, 859] (by decide +kernel) (by decide +kernel)
set_option maxRecDepth 20000 in
theorem gL_law_X6_alike : GoodIn wsL_law (wsV RL 105 RX6 yX6_alike wsX6_alike) := goodIn_app (goodIn_of _ (by decide +kernel)) ggL_law_X6_alike
