set_option maxRecDepth 20000 in
theorem ggL_law_X5_init : GoodIn wsL_law wsX5_init := goodIn_r _ [8, 9, 10, 11, 12, 13, 14, 15, 16, 17, 18, 19, 20, 21, 22, 23, 24, 25, 26, 27, 28, 29, 30, 31, 32, 33, 34, 35, 36, 37, 38, 39, 40, 41, 42, 43, 44, 45, 46, 47, 48, 49, 50, 51, 52, 53, 54, 55, 56, 57, 58, 59, 60, 61, 62, 63, 64, 65, 66, 67, 68, 69, 70, 71, 72, 73, 74, 75, 76, 77, 78, 776, 777, 778, 779, 780, 781, 782, 783, 784, 806, 807, 808, 809, 810, 811, 812, 813, 814, 815, 816, 817, 818, 819, 820, 821, 822, 823, 824, 825] (by decide +kernel) (by decide +kernel)
set_option maxRecDepth 20000 in
theorem gL_law_X5_init : GoodIn wsL_law (wsX5_init) := ggL_law_X5_init
set_option maxRecDepth 20000 in
theorem ggL_law_X6_init : GoodIn wsL_law wsX6_init := goodIn_r _ [81, 82, 10, 11, 39, 83, 84, 85, 86, 87, 88, 89, 90, 91, 92, 93, 94, 95, 96, 97, 785, 786, 787, 788, 789, 790, 791, 792, 793, 794, 795, 796, 797, 798, 799, 800, 801, 802, 803, 804, 805] (by decide +kernel) (by decide +kernel)
set_option maxRecDepth 20000 in
theorem gL_law_X6_init : GoodIn wsL_law (wsX6_init) := ggL_law_X6_init
set_option maxRecDepth 20000 in
theorem ggL_law_X5_fill : GoodIn wsL_law wsX5_fill := goodIn_r _ [101, 22, 13, 102, 103, 2, 104, 105, 106, 107, 108, 109, 110, 111, 112, 113, 21, 114, 47, 115, 116, 117, 118, 119, 120, 121, 122, 123, 124, 125, 126, 127, 128, 129, 130, 131, 19, 132, 133, 134, 18, 135, 42, 40, 41, 43, 136, 137, 138, 139, 140, 141, 142, 143, 144, 145, 146, 147, 148, 149, 150, 151, 152, 153, 154, 155, 776, 777, 778, 779, 780, 781, 782, 783, 784, 810, 806, 807, 808, 809] (by decide +kernel) (by decide +kernel)
set_option maxRecDepth 20000 in
theorem gL_law_X5_fill : GoodIn wsL_law (wsV RL 13 RX5 yX5_fill wsX5_fill) := goodIn_app (goodIn_of _ (by decide +kernel)) ggL_law_X5_fill
set_option maxRecDepth 20000 in
theorem ggL_law_X6_fill : GoodIn wsL_law wsX6_fill := goodIn_r _ [159, 160, 161, 162, 5, 163, 164, 165, 166, 167, 168, 169, 170, 171, 172, 173, 174, 175, 176, 177, 178, 88, 87, 179, 180, 181, 182, 183, 184, 185, 186, 187, 188, 189, 190, 191, 89, 90, 192, 193, 194, 195, 196, 197, 198, 199, 785, 786, 787, 788, 789, 790, 791, 792, 793, 794, 795, 796, 797, 798, 799, 800, 801, 802, 803, 804, 805] (by decide +kernel) (by decide +kernel)
set_option maxRecDepth 20000 in
theorem gL_law_X6_fill : GoodIn wsL_law (wsV RL 17 RX6 yX6_fill wsX6_fill) := goodIn_app (goodIn_of _ (by decide +kernel)) ggL_law_X6_fill
set_option maxRecDepth 20000 in
theorem ggL_law_X5_dots : GoodIn wsL_law wsX5_dots := goodIn_r _ [203, 22, 13, 204, 102, 103, 2, 104, 105, 106, 107, 111, 112, 113, 21, 114, 47, 205, 206, 207, 208, 119, 120, 121, 122, 123, 124, 125, 126, 127, 128, 129, 130, 131, 19, 132, 133, 134, 18, 135, 42, 40, 41, 43, 136, 137, 138, 139, 140, 141, 142, 143, 144, 145, 146, 147, 148, 149, 150, 151, 152, 153, 154, 155, 776, 777, 778, 779, 780, 781, 782, 783, 784, 810, 806, 807, 808, 809] (by decide +kernel) (by decide +kernel)
set_option maxRecDepth 20000 in
theorem gL_law_X5_dots : GoodIn wsL_law (wsV RL 18 RX5 yX5_dots wsX5_dots) := goodIn_app (goodIn_of _ (by decide +kernel)) ggL_law_X5_dots
set_option maxRecDepth 20000 in
theorem ggL_law_X6_dots : GoodIn wsL_law wsX6_dots := goodIn_r _ [212, 213, 214, 88, 161, 162, 5, 163, 164, 165, 166, 167, 175, 176, 177, 178, 87, 215, 216, 217, 218, 219, 183, 184, 185, 186, 187, 188, 189, 190, 191, 89, 90, 192, 193, 194, 195, 196, 197, 198, 199, 168, 169, 170, 171, 785, 786, 787, 788, 789, 790, 791, 792, 793, 794, 795, 796, 797, 798, 799, 800, 801, 802, 803, 804, 805] (by decide +kernel) (by decide +kernel)
set_option maxRecDepth 20000 in
theorem gL_law_X6_dots : GoodIn wsL_law (wsV RL 22 RX6 yX6_dots wsX6_dots) := goodIn_app (goodIn_of _ (by decide +kernel)) ggL_law_X6_dots
set_option maxRecDepth 20000 in
theorem ggL_law_X5_join : GoodIn wsL_law wsX5_join := goodIn_r _ [223, 22, 13, 105, 106, 2, 107, 102, 103, 104, 224, 120, 121, 21, 122, 47, 225, 226, 227, 228, 124, 125, 126, 127, 128, 129, 130, 131, 19, 132, 133, 134, 18, 135, 42, 40, 41, 43, 136, 137, 138, 139, 140, 141, 142, 143, 144, 111, 112, 113, 114, 145, 146, 147, 148, 149, 150, 151, 152, 153, 154, 155, 776, 777, 778, 779, 780, 781, 782, 783, 784, 810, 806, 807, 808, 809] (by decide +kernel) (by decide +kernel)
set_option maxRecDepth 20000 in
theorem gL_law_X5_join : GoodIn wsL_law (wsV RL 23 RX5 yX5_join wsX5_join) := goodIn_app (goodIn_of _ (by decide +kernel)) ggL_law_X5_join
set_option maxRecDepth 20000 in
theorem ggL_law_X6_join : GoodIn wsL_law wsX6_join := goodIn_r _ [232, 164, 87, 88, 165, 166, 5, 167, 161, 162, 163, 183, 184, 185, 186, 187, 188, 189, 190, 191, 89, 90, 192, 193, 194, 195, 196, 197, 198, 199, 168, 169, 170, 171, 785, 786, 787, 788, 789, 790, 791, 792, 793, 794, 795, 796, 797, 798, 799, 800, 801, 802, 803, 804, 805] (by decide +kernel) (by decide +kernel)
set_option maxRecDepth 20000 in
theorem gL_law_X6_join : GoodIn wsL_law (wsV RL 27 RX6 yX6_join wsX6_join) := goodIn_app (goodIn_of _ (by decide +kernel)) ggL_law_X6_join
set_option maxRecDepth 20000 in
theorem ggL_law_X5_over : GoodIn wsL_law wsX5_over := goodIn_r _ [236, 22, 13, 102, 103, 2, 104, 105, 106, 107, 237, 238, 239, 21, 240, 47, 127, 128, 129, 130, 131, 19, 132, 133, 134, 18, 135, 42, 40, 41, 43, 136, 137, 138, 139, 140, 141, 142, 143, 144, 120, 121, 122, 111, 112, 113, 114, 145, 146, 147, 148, 149, 150, 151, 152, 153, 154, 155, 776, 777, 778, 779, 780, 781, 782, 783, 784, 810, 806, 807, 808, 809] (by decide +kernel) (by decide +kernel)
set_option maxRecDepth 20000 in
theorem gL_law_X5_over : GoodIn wsL_law (wsV RL 28 RX5 yX5_over wsX5_over) := goodIn_app (goodIn_of _ (by decide +kernel)) ggL_law_X5_over
set_option maxRecDepth 20000 in
theorem ggL_law_X6_over : GoodIn wsL_law wsX6_over := goodIn_r _ [244, 88, 245, 87, 161, 162, 5, 163, 164, 165, 166, 167, 183, 184, 185, 186, 187, 188, 189, 190, 191, 89, 90, 192, 193, 194, 195, 196, 197, 198, 199, 168, 169, 170, 171, 785, 786, 787, 788, 789, 790, 791, 792, 793, 794, 795, 796, 797, 798, 799, 800, 801, 802, 803, 804, 805] (by decide +kernel) (by decide +kernel)
set_option maxRecDepth 20000 in
theorem gL_law_X6_over : GoodIn wsL_law (wsV RL 32 RX6 yX6_over wsX6_over) := goodIn_app (goodIn_of _ (by decide +kernel)) ggL_law_X6_over
set_option maxRecDepth 20000 in
theorem ggL_law_X5_move : GoodIn wsL_law wsX5_move := goodIn_r _ [249, 13, 22, 102, 103, 2, 104, 105, 106, 107, 250, 251, 252, 224, 120, 121, 21, 122, 47, 228, 124, 125, 126, 127, 128, 129, 130, 131, 19, 132, 133, 134, 18, 135, 42, 40, 41, 43, 136, 137, 138, 139, 140, 141, 142, 143, 144, 111, 112, 113, 114, 145, 146, 147, 148, 149, 150, 151, 152, 153, 154, 155, 776, 777, 778, 779, 780, 781, 782, 783, 784, 810, 806, 807, 808, 809] (by decide +kernel) (by decide +kernel)
set_option maxRecDepth 20000 in
theorem gL_law_X5_move : GoodIn wsL_law (wsV RL 33 RX5 yX5_move wsX5_move) := goodIn_app (goodIn_of _ (by decide +kernel)) ggL_law_X5_move
set_option maxRecDepth 20000 in
theorem ggL_law_X6_move : GoodIn wsL_law wsX6_move := goodIn_r _ [256, 257, 160, 161, 162, 5, 163, 164, 165, 166, 167, 258, 259, 260, 261, 88, 196, 197, 198, 199, 87, 168, 169, 170, 171, 179, 180, 181, 182, 183, 184, 185, 186, 187, 188, 189, 190, 191, 89, 90, 192, 193, 194, 195, 785, 786, 787, 788, 789, 790, 791, 792, 793, 794, 795, 796, 797, 798, 799, 800, 801, 802, 803, 804, 805] (by decide +kernel) (by decide +kernel)
set_option maxRecDepth 20000 in
theorem gL_law_X6_move : GoodIn wsL_law (wsV RL 36 RX6 yX6_move wsX6_move) := goodIn_app (goodIn_of _ (by decide +kernel)) ggL_law_X6_move
set_option maxRecDepth 20000 in
theorem ggL_law_X5_turn : GoodIn wsL_law wsX5_turn := goodIn_r _ [265, 22, 13, 23, 102, 103, 2, 104, 105, 106, 107, 111, 112, 113, 21, 114, 47, 266, 267, 268, 269, 270, 271, 272, 273, 128, 129, 130, 131, 19, 132, 133, 134, 18, 135, 42, 40, 41, 43, 136, 137, 138, 139, 140, 141, 142, 143, 144, 120, 121, 122, 145, 146, 147, 148, 149, 150, 151, 152, 153, 154, 155, 776, 777, 778, 779, 780, 781, 782, 783, 784, 810, 806, 807, 808, 809] (by decide +kernel) (by decide +kernel)
set_option maxRecDepth 20000 in
theorem gL_law_X5_turn : GoodIn wsL_law (wsV RL 37 RX5 yX5_turn wsX5_turn) := goodIn_app (goodIn_of _ (by decide +kernel)) ggL_law_X5_turn
set_option maxRecDepth 20000 in
theorem ggL_law_X6_turn : GoodIn wsL_law wsX6_turn := goodIn_r _ [277, 164, 161, 162, 5, 163, 165, 166, 167, 258, 259, 260, 261, 88, 196, 197, 198, 199, 87, 168, 169, 170, 171, 179, 180, 181, 182, 183, 184, 185, 186, 187, 188, 189, 190, 191, 89, 90, 192, 193, 194, 195, 785, 786, 787, 788, 789, 790, 791, 792, 793, 794, 795, 796, 797, 798, 799, 800, 801, 802, 803, 804, 805] (by decide +kernel) (by decide +kernel)
set_option maxRecDepth 20000 in
theorem gL_law_X6_turn : GoodIn wsL_law (wsV RL 40 RX6 yX6_turn wsX6_turn) := goodIn_app (goodIn_of _ (by decide +kernel)) ggL_law_X6_turn
