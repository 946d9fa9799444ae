set_option maxRecDepth 20000 in
theorem ggL_law_X5_band : GoodIn wsL_law wsX5_band := goodIn_r _ [281, 22, 13, 23, 102, 103, 2, 104, 105, 106, 107, 111, 112, 113, 21, 114, 47, 282, 283, 284, 285, 286, 287, 288, 289, 127, 119, 120, 121, 122, 128, 129, 130, 131, 19, 132, 133, 134, 18, 135, 42, 40, 41, 43, 136, 137, 138, 139, 140, 141, 142, 143, 144, 145, 146, 147, 148, 149, 150, 151, 152, 153, 154, 155, 776, 777, 778, 779, 780, 781, 782, 783, 784, 810, 806, 807, 808, 809] (by decide +kernel) (by decide +kernel)
set_option maxRecDepth 20000 in
theorem gL_law_X5_band : GoodIn wsL_law (wsV RL 41 RX5 yX5_band wsX5_band) := goodIn_app (goodIn_of _ (by decide +kernel)) ggL_law_X5_band
set_option maxRecDepth 20000 in
theorem ggL_law_X6_band : GoodIn wsL_law wsX6_band := goodIn_r _ [293, 294, 161, 162, 5, 163, 164, 165, 166, 167, 258, 259, 260, 261, 88, 295, 296, 297, 298, 299, 300, 301, 196, 197, 198, 199, 87, 168, 169, 170, 171, 179, 180, 181, 182, 183, 184, 185, 186, 187, 188, 189, 190, 191, 89, 90, 192, 193, 194, 195, 785, 786, 787, 788, 789, 790, 791, 792, 793, 794, 795, 796, 797, 798, 799, 800, 801, 802, 803, 804, 805] (by decide +kernel) (by decide +kernel)
set_option maxRecDepth 20000 in
theorem gL_law_X6_band : GoodIn wsL_law (wsV RL 44 RX6 yX6_band wsX6_band) := goodIn_app (goodIn_of _ (by decide +kernel)) ggL_law_X6_band
set_option maxRecDepth 20000 in
theorem ggL_law_X5_pick : GoodIn wsL_law wsX5_pick := goodIn_r _ [305, 27, 13, 22, 102, 103, 2, 104, 105, 106, 107, 108, 109, 110, 306, 307, 308, 26, 309, 53, 54, 57, 310, 311, 312, 21, 313, 47, 314, 112, 113, 114, 58, 59, 60, 61, 315, 271, 272, 273, 316, 317, 318, 319, 55, 320, 321, 322, 323, 56, 324, 325, 326, 327, 328, 329, 330, 331, 332, 333, 334, 335, 336, 137, 138, 139, 337, 338, 339, 340, 341, 342, 343, 344, 228, 124, 125, 126, 127, 128, 129, 130, 131, 19, 132, 133, 134, 18, 135, 42, 40, 41, 43, 136, 140, 141, 142, 143, 144, 120, 121, 122, 111, 145, 146, 147, 148, 149, 150, 151, 152, 153, 154, 155, 776, 777, 778, 779, 780, 781, 782, 783, 784, 811, 812, 813, 814, 815, 810, 806, 807, 808, 809] (by decide +kernel) (by decide +kernel)
set_option maxRecDepth 20000 in
theorem gL_law_X5_pick : GoodIn wsL_law (wsV RL 45 RX5 yX5_pick wsX5_pick) := goodIn_app (goodIn_of _ (by decide +kernel)) ggL_law_X5_pick
set_option maxRecDepth 20000 in
theorem ggL_law_X6_pick : GoodIn wsL_law wsX6_pick := goodIn_r _ [348, 91, 161, 162, 5, 163, 164, 165, 166, 167, 168, 169, 170, 171, 196, 197, 198, 199, 87, 349, 350, 351, 352, 353, 354, 355, 356, 357, 92, 258, 259, 260, 261, 88, 179, 180, 181, 182, 183, 184, 185, 186, 187, 188, 189, 190, 191, 89, 90, 192, 193, 194, 195, 785, 786, 787, 788, 789, 790, 791, 792, 793, 794, 795, 796, 797, 798, 799, 800, 801, 802, 803, 804, 805] (by decide +kernel) (by decide +kernel)
set_option maxRecDepth 20000 in
theorem gL_law_X6_pick : GoodIn wsL_law (wsV RL 48 RX6 yX6_pick wsX6_pick) := goodIn_app (goodIn_of _ (by decide +kernel)) ggL_law_X6_pick
set_option maxRecDepth 20000 in
theorem ggL_law_X5_read : GoodIn wsL_law wsX5_read := goodIn_r _ [361, 15, 22, 102, 103, 2, 104, 105, 106, 107, 362, 363, 364, 365, 366, 367, 368, 33, 369, 370, 371, 372, 373, 374, 35, 375, 78, 75, 115, 116, 117, 21, 118, 119, 120, 121, 122, 47, 123, 124, 125, 126, 127, 128, 129, 130, 131, 19, 13, 132, 133, 134, 18, 135, 42, 40, 41, 43, 136, 137, 138, 139, 140, 141, 142, 143, 144, 111, 112, 113, 114, 145, 146, 147, 148, 149, 150, 151, 152, 153, 154, 155, 776, 777, 778, 779, 780, 781, 782, 783, 784, 822, 823, 824, 825, 810, 806, 807, 808, 809] (by decide +kernel) (by decide +kernel)
set_option maxRecDepth 20000 in
theorem gL_law_X5_read : GoodIn wsL_law (wsV RL 49 RX5 yX5_read wsX5_read) := goodIn_app (goodIn_of _ (by decide +kernel)) ggL_law_X5_read
set_option maxRecDepth 20000 in
theorem ggL_law_X6_read : GoodIn wsL_law wsX6_read := goodIn_r _ [379, 83, 161, 162, 5, 163, 164, 165, 166, 167, 380, 381, 382, 383, 384, 385, 386, 387, 388, 389, 390, 391, 392, 93, 94, 95, 84, 85, 393, 258, 259, 260, 261, 88, 394, 395, 396, 397, 398, 399, 400, 401, 179, 180, 181, 182, 187, 188, 189, 190, 191, 89, 90, 87, 785, 786, 787, 788, 789, 790, 791, 792, 793, 794, 795, 796, 797, 798, 799, 800, 801, 802, 803, 804, 805] (by decide +kernel) (by decide +kernel)
set_option maxRecDepth 20000 in
theorem gL_law_X6_read : GoodIn wsL_law (wsV RL 52 RX6 yX6_read wsX6_read) := goodIn_app (goodIn_of _ (by decide +kernel)) ggL_law_X6_read
set_option maxRecDepth 20000 in
theorem ggL_law_X5_back : GoodIn wsL_law wsX5_back := goodIn_r _ [405, 19, 22, 13, 406, 407, 408, 18, 409, 43, 42, 41, 40, 140, 141, 142, 143, 410, 124, 125, 21, 126, 47, 127, 106, 2, 107, 102, 103, 104, 105, 111, 112, 113, 114, 776, 777, 778, 779, 780, 781, 782, 783, 784, 806, 807, 808, 809, 810] (by decide +kernel) (by decide +kernel)
set_option maxRecDepth 20000 in
theorem gL_law_X5_back : GoodIn wsL_law (wsV RL 53 RX5 yX5_back wsX5_back) := goodIn_app (goodIn_of _ (by decide +kernel)) ggL_law_X5_back
set_option maxRecDepth 20000 in
theorem ggL_law_X6_back : GoodIn wsL_law wsX6_back := goodIn_r _ [414, 191, 87, 89, 90, 785, 786, 787, 788, 789, 790, 791, 792, 793, 794, 795, 796, 797, 798, 799, 800, 801, 802, 803, 804, 805] (by decide +kernel) (by decide +kernel)
set_option maxRecDepth 20000 in
theorem gL_law_X6_back : GoodIn wsL_law (wsV RL 57 RX6 yX6_back wsX6_back) := goodIn_app (goodIn_of _ (by decide +kernel)) ggL_law_X6_back
set_option maxRecDepth 20000 in
theorem ggL_law_X5_cell : GoodIn wsL_law wsX5_cell := goodIn_r _ [418, 13, 102, 103, 2, 104, 105, 106, 107, 108, 109, 110, 419, 271, 272, 21, 273, 47, 776, 777, 778, 779, 780, 781, 782, 783, 784, 810] (by decide +kernel) (by decide +kernel)
set_option maxRecDepth 20000 in
theorem gL_law_X5_cell : GoodIn wsL_law (wsV RL 58 RX5 yX5_cell wsX5_cell) := goodIn_app (goodIn_of _ (by decide +kernel)) ggL_law_X5_cell
set_option maxRecDepth 20000 in
theorem ggL_law_X6_cell : GoodIn wsL_law wsX6_cell := goodIn_r _ [423, 161, 162, 5, 163, 164, 165, 166, 167, 168, 169, 170, 171, 196, 197, 198, 199, 87, 785, 786, 787, 788, 789, 790, 791, 792, 793, 794, 795, 796, 797, 798, 799, 800, 801, 802, 803, 804, 805] (by decide +kernel) (by decide +kernel)
set_option maxRecDepth 20000 in
theorem gL_law_X6_cell : GoodIn wsL_law (wsV RL 61 RX6 yX6_cell wsX6_cell) := goodIn_app (goodIn_of _ (by decide +kernel)) ggL_law_X6_cell
set_option maxRecDepth 20000 in
theorem ggL_law_X5_block : GoodIn wsL_law wsX5_block := goodIn_r _ [427, 13, 102, 103, 2, 104, 105, 106, 107, 108, 109, 110, 428, 429, 430, 21, 431, 432, 433, 434, 435, 119, 120, 121, 122, 47, 776, 777, 778, 779, 780, 781, 782, 783, 784, 810] (by decide +kernel) (by decide +kernel)
set_option maxRecDepth 20000 in
theorem gL_law_X5_block : GoodIn wsL_law (wsV RL 62 RX5 yX5_block wsX5_block) := goodIn_app (goodIn_of _ (by decide +kernel)) ggL_law_X5_block
set_option maxRecDepth 20000 in
theorem ggL_law_X6_block : GoodIn wsL_law wsX6_block := goodIn_r _ [439, 393, 161, 162, 5, 163, 164, 165, 166, 167, 168, 169, 170, 171, 440, 441, 442, 443, 444, 445, 446, 447, 87, 785, 786, 787, 788, 789, 790, 791, 792, 793, 794, 795, 796, 797, 798, 799, 800, 801, 802, 803, 804, 805] (by decide +kernel) (by decide +kernel)
set_option maxRecDepth 20000 in
theorem gL_law_X6_block : GoodIn wsL_law (wsV RL 65 RX6 yX6_block wsX6_block) := goodIn_app (goodIn_of _ (by decide +kernel)) ggL_law_X6_block
set_option maxRecDepth 20000 in
theorem ggL_law_X5_blocks : GoodIn wsL_law wsX5_blocks := goodIn_r _ [451, 32, 13, 102, 103, 2, 104, 105, 106, 107, 452, 453, 454, 31, 455, 66, 68, 69, 70, 71, 456, 311, 312, 21, 313, 47, 457, 112, 113, 114, 458, 459, 460, 461, 338, 138, 339, 462, 433, 434, 435, 119, 120, 121, 122, 463, 464, 465, 466, 67, 776, 777, 778, 779, 780, 781, 782, 783, 784, 816, 817, 818, 819, 820, 821, 810] (by decide +kernel) (by decide +kernel)
set_option maxRecDepth 20000 in
theorem gL_law_X5_blocks : GoodIn wsL_law (wsV RL 66 RX5 yX5_blocks wsX5_blocks) := goodIn_app (goodIn_of _ (by decide +kernel)) ggL_law_X5_blocks
set_option maxRecDepth 20000 in
theorem ggL_law_X6_blocks : GoodIn wsL_law wsX6_blocks := goodIn_r _ [470, 164, 161, 162, 5, 163, 165, 166, 167, 471, 472, 473, 474, 97, 475, 476, 477, 478, 479, 392, 93, 94, 95, 96, 394, 395, 396, 397, 444, 445, 446, 447, 87, 196, 197, 198, 199, 168, 169, 170, 171, 480, 481, 482, 483, 484, 485, 398, 399, 400, 401, 785, 786, 787, 788, 789, 790, 791, 792, 793, 794, 795, 796, 797, 798, 799, 800, 801, 802, 803, 804, 805] (by decide +kernel) (by decide +kernel)
set_option maxRecDepth 20000 in
theorem gL_law_X6_blocks : GoodIn wsL_law (wsV RL 69 RX6 yX6_blocks wsX6_blocks) := goodIn_app (goodIn_of _ (by decide +kernel)) ggL_law_X6_blocks
