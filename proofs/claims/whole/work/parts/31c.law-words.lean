set_option maxRecDepth 20000 in
theorem ggL_law_X5_band : GoodIn wsL_law wsX5_band := goodIn_r _ [277, 22, 13, 23, 102, 103, 2, 104, 105, 106, 107, 111, 112, 113, 21, 114, 47, 278, 279, 280, 281, 282, 283, 284, 285, 127, 119, 120, 121, 122, 128, 129, 130, 131, 19, 132, 133, 134, 18, 135, 40, 42, 41, 43, 136, 137, 138, 139, 140, 141, 142, 143, 144, 145, 146, 147, 148, 149, 150, 151, 772, 773, 774, 775, 776, 777, 778, 779, 780, 806, 802, 803, 804, 805] (by decide +kernel) (by decide +kernel)
set_option maxRecDepth 20000 in
theorem gL_law_X5_band : GoodIn wsL_law (wsV RL 41 RX5 yX5_band wsX5_band) := goodIn_app (goodIn_of _ (by decide +kernel)) ggL_law_X5_band
set_option maxRecDepth 20000 in
theorem ggL_law_X6_band : GoodIn wsL_law wsX6_band := goodIn_r _ [289, 290, 157, 158, 5, 159, 160, 161, 162, 163, 254, 255, 256, 257, 88, 291, 292, 293, 294, 295, 296, 297, 192, 193, 194, 195, 87, 164, 165, 166, 167, 175, 176, 177, 178, 179, 180, 181, 182, 183, 184, 185, 186, 187, 89, 90, 188, 189, 190, 191, 781, 782, 783, 784, 785, 786, 787, 788, 789, 790, 791, 792, 793, 794, 795, 796, 797, 798, 799, 800, 801] (by decide +kernel) (by decide +kernel)
set_option maxRecDepth 20000 in
theorem gL_law_X6_band : GoodIn wsL_law (wsV RL 44 RX6 yX6_band wsX6_band) := goodIn_app (goodIn_of _ (by decide +kernel)) ggL_law_X6_band
set_option maxRecDepth 20000 in
theorem ggL_law_X5_pick : GoodIn wsL_law wsX5_pick := goodIn_r _ [301, 27, 13, 22, 102, 103, 2, 104, 105, 106, 107, 108, 109, 110, 302, 303, 304, 26, 305, 53, 54, 57, 306, 307, 308, 21, 309, 47, 310, 112, 113, 114, 58, 59, 60, 61, 311, 267, 268, 269, 312, 313, 314, 315, 55, 316, 317, 318, 319, 56, 320, 321, 322, 323, 324, 325, 326, 327, 328, 329, 330, 331, 332, 137, 138, 139, 333, 334, 335, 336, 337, 338, 339, 340, 224, 124, 125, 126, 127, 128, 129, 130, 131, 19, 132, 133, 134, 18, 135, 40, 42, 41, 43, 136, 140, 120, 121, 122, 111, 141, 142, 143, 144, 145, 146, 147, 148, 149, 150, 151, 772, 773, 774, 775, 776, 777, 778, 779, 780, 807, 808, 809, 810, 811, 806, 802, 803, 804, 805] (by decide +kernel) (by decide +kernel)
set_option maxRecDepth 20000 in
theorem gL_law_X5_pick : GoodIn wsL_law (wsV RL 45 RX5 yX5_pick wsX5_pick) := goodIn_app (goodIn_of _ (by decide +kernel)) ggL_law_X5_pick
set_option maxRecDepth 20000 in
theorem ggL_law_X6_pick : GoodIn wsL_law wsX6_pick := goodIn_r _ [344, 91, 157, 158, 5, 159, 160, 161, 162, 163, 164, 165, 166, 167, 192, 193, 194, 195, 87, 345, 346, 347, 348, 349, 350, 351, 352, 353, 92, 254, 255, 256, 257, 88, 175, 176, 177, 178, 179, 180, 181, 182, 183, 184, 185, 186, 187, 89, 90, 188, 189, 190, 191, 781, 782, 783, 784, 785, 786, 787, 788, 789, 790, 791, 792, 793, 794, 795, 796, 797, 798, 799, 800, 801] (by decide +kernel) (by decide +kernel)
set_option maxRecDepth 20000 in
theorem gL_law_X6_pick : GoodIn wsL_law (wsV RL 48 RX6 yX6_pick wsX6_pick) := goodIn_app (goodIn_of _ (by decide +kernel)) ggL_law_X6_pick
set_option maxRecDepth 20000 in
theorem ggL_law_X5_read : GoodIn wsL_law wsX5_read := goodIn_r _ [357, 15, 22, 102, 103, 2, 104, 105, 106, 107, 358, 359, 360, 361, 362, 363, 364, 33, 365, 366, 367, 368, 369, 370, 35, 371, 78, 75, 115, 116, 117, 21, 118, 119, 120, 121, 122, 47, 123, 124, 125, 126, 127, 128, 129, 130, 131, 19, 13, 132, 133, 134, 18, 135, 40, 42, 41, 43, 136, 137, 138, 139, 140, 111, 112, 113, 114, 141, 142, 143, 144, 145, 146, 147, 148, 149, 150, 151, 772, 773, 774, 775, 776, 777, 778, 779, 780, 818, 819, 820, 821, 806, 802, 803, 804, 805] (by decide +kernel) (by decide +kernel)
set_option maxRecDepth 20000 in
theorem gL_law_X5_read : GoodIn wsL_law (wsV RL 49 RX5 yX5_read wsX5_read) := goodIn_app (goodIn_of _ (by decide +kernel)) ggL_law_X5_read
set_option maxRecDepth 20000 in
theorem ggL_law_X6_read : GoodIn wsL_law wsX6_read := goodIn_r _ [375, 83, 157, 158, 5, 159, 160, 161, 162, 163, 376, 377, 378, 379, 380, 381, 382, 383, 384, 385, 386, 387, 388, 93, 94, 95, 84, 85, 389, 254, 255, 256, 257, 88, 390, 391, 392, 393, 394, 395, 396, 397, 175, 176, 177, 178, 183, 184, 185, 186, 187, 89, 90, 87, 781, 782, 783, 784, 785, 786, 787, 788, 789, 790, 791, 792, 793, 794, 795, 796, 797, 798, 799, 800, 801] (by decide +kernel) (by decide +kernel)
set_option maxRecDepth 20000 in
theorem gL_law_X6_read : GoodIn wsL_law (wsV RL 52 RX6 yX6_read wsX6_read) := goodIn_app (goodIn_of _ (by decide +kernel)) ggL_law_X6_read
set_option maxRecDepth 20000 in
theorem ggL_law_X5_back : GoodIn wsL_law wsX5_back := goodIn_r _ [401, 19, 22, 13, 402, 403, 404, 18, 405, 43, 42, 41, 40, 406, 124, 125, 21, 126, 47, 127, 106, 2, 107, 102, 103, 104, 105, 111, 112, 113, 114, 772, 773, 774, 775, 776, 777, 778, 779, 780, 802, 803, 804, 805, 806] (by decide +kernel) (by decide +kernel)
set_option maxRecDepth 20000 in
theorem gL_law_X5_back : GoodIn wsL_law (wsV RL 53 RX5 yX5_back wsX5_back) := goodIn_app (goodIn_of _ (by decide +kernel)) ggL_law_X5_back
set_option maxRecDepth 20000 in
theorem ggL_law_X6_back : GoodIn wsL_law wsX6_back := goodIn_r _ [410, 187, 87, 89, 90, 781, 782, 783, 784, 785, 786, 787, 788, 789, 790, 791, 792, 793, 794, 795, 796, 797, 798, 799, 800, 801] (by decide +kernel) (by decide +kernel)
set_option maxRecDepth 20000 in
theorem gL_law_X6_back : GoodIn wsL_law (wsV RL 57 RX6 yX6_back wsX6_back) := goodIn_app (goodIn_of _ (by decide +kernel)) ggL_law_X6_back
set_option maxRecDepth 20000 in
theorem ggL_law_X5_cell : GoodIn wsL_law wsX5_cell := goodIn_r _ [414, 13, 102, 103, 2, 104, 105, 106, 107, 108, 109, 110, 415, 267, 268, 21, 269, 47, 772, 773, 774, 775, 776, 777, 778, 779, 780, 806] (by decide +kernel) (by decide +kernel)
set_option maxRecDepth 20000 in
theorem gL_law_X5_cell : GoodIn wsL_law (wsV RL 58 RX5 yX5_cell wsX5_cell) := goodIn_app (goodIn_of _ (by decide +kernel)) ggL_law_X5_cell
set_option maxRecDepth 20000 in
theorem ggL_law_X6_cell : GoodIn wsL_law wsX6_cell := goodIn_r _ [419, 157, 158, 5, 159, 160, 161, 162, 163, 164, 165, 166, 167, 192, 193, 194, 195, 87, 781, 782, 783, 784, 785, 786, 787, 788, 789, 790, 791, 792, 793, 794, 795, 796, 797, 798, 799, 800, 801] (by decide +kernel) (by decide +kernel)
set_option maxRecDepth 20000 in
theorem gL_law_X6_cell : GoodIn wsL_law (wsV RL 61 RX6 yX6_cell wsX6_cell) := goodIn_app (goodIn_of _ (by decide +kernel)) ggL_law_X6_cell
set_option maxRecDepth 20000 in
theorem ggL_law_X5_block : GoodIn wsL_law wsX5_block := goodIn_r _ [423, 13, 102, 103, 2, 104, 105, 106, 107, 108, 109, 110, 424, 425, 426, 21, 427, 428, 429, 430, 431, 119, 120, 121, 122, 47, 772, 773, 774, 775, 776, 777, 778, 779, 780, 806] (by decide +kernel) (by decide +kernel)
set_option maxRecDepth 20000 in
theorem gL_law_X5_block : GoodIn wsL_law (wsV RL 62 RX5 yX5_block wsX5_block) := goodIn_app (goodIn_of _ (by decide +kernel)) ggL_law_X5_block
set_option maxRecDepth 20000 in
theorem ggL_law_X6_block : GoodIn wsL_law wsX6_block := goodIn_r _ [435, 389, 157, 158, 5, 159, 160, 161, 162, 163, 164, 165, 166, 167, 436, 437, 438, 439, 440, 441, 442, 443, 87, 781, 782, 783, 784, 785, 786, 787, 788, 789, 790, 791, 792, 793, 794, 795, 796, 797, 798, 799, 800, 801] (by decide +kernel) (by decide +kernel)
set_option maxRecDepth 20000 in
theorem gL_law_X6_block : GoodIn wsL_law (wsV RL 65 RX6 yX6_block wsX6_block) := goodIn_app (goodIn_of _ (by decide +kernel)) ggL_law_X6_block
set_option maxRecDepth 20000 in
theorem ggL_law_X5_blocks : GoodIn wsL_law wsX5_blocks := goodIn_r _ [447, 32, 13, 102, 103, 2, 104, 105, 106, 107, 448, 449, 450, 31, 451, 66, 68, 69, 70, 71, 452, 307, 308, 21, 309, 47, 453, 112, 113, 114, 454, 455, 456, 457, 334, 138, 335, 458, 429, 430, 431, 119, 120, 121, 122, 459, 460, 461, 462, 67, 772, 773, 774, 775, 776, 777, 778, 779, 780, 812, 813, 814, 815, 816, 817, 806] (by decide +kernel) (by decide +kernel)
set_option maxRecDepth 20000 in
theorem gL_law_X5_blocks : GoodIn wsL_law (wsV RL 66 RX5 yX5_blocks wsX5_blocks) := goodIn_app (goodIn_of _ (by decide +kernel)) ggL_law_X5_blocks
set_option maxRecDepth 20000 in
theorem ggL_law_X6_blocks : GoodIn wsL_law wsX6_blocks := goodIn_r _ [466, 160, 157, 158, 5, 159, 161, 162, 163, 467, 468, 469, 470, 97, 471, 472, 473, 474, 475, 388, 93, 94, 95, 96, 390, 391, 392, 393, 440, 441, 442, 443, 87, 192, 193, 194, 195, 164, 165, 166, 167, 476, 477, 478, 479, 480, 481, 394, 395, 396, 397, 781, 782, 783, 784, 785, 786, 787, 788, 789, 790, 791, 792, 793, 794, 795, 796, 797, 798, 799, 800, 801] (by decide +kernel) (by decide +kernel)
set_option maxRecDepth 20000 in
theorem gL_law_X6_blocks : GoodIn wsL_law (wsV RL 69 RX6 yX6_blocks wsX6_blocks) := goodIn_app (goodIn_of _ (by decide +kernel)) ggL_law_X6_blocks
