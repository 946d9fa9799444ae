set_option maxRecDepth 20000 in
theorem ggL_law_X5_shown : GoodIn wsL_law wsX5_shown := goodIn_r _ [485, 32, 13, 102, 103, 2, 104, 105, 106, 107, 448, 449, 450, 31, 451, 66, 68, 69, 70, 71, 452, 307, 308, 21, 309, 47, 453, 112, 113, 114, 454, 455, 456, 457, 334, 138, 335, 458, 429, 430, 431, 119, 120, 121, 122, 459, 460, 461, 462, 67, 486, 487, 488, 489, 772, 773, 774, 775, 776, 777, 778, 779, 780, 812, 813, 814, 815, 816, 817, 806] (by decide +kernel) (by decide +kernel)
set_option maxRecDepth 20000 in
theorem gL_law_X5_shown : GoodIn wsL_law (wsV RL 70 RX5 yX5_shown wsX5_shown) := goodIn_app (goodIn_of _ (by decide +kernel)) ggL_law_X5_shown
set_option maxRecDepth 20000 in
theorem ggL_law_X6_shown : GoodIn wsL_law wsX6_shown := goodIn_r _ [493, 494, 495, 157, 158, 5, 159, 160, 161, 162, 163, 496, 497, 498, 499, 471, 472, 473, 474, 475, 97, 388, 93, 94, 95, 96, 390, 391, 392, 393, 440, 441, 442, 443, 87, 192, 193, 194, 195, 164, 165, 166, 167, 476, 477, 478, 479, 480, 481, 394, 395, 396, 397, 500, 501, 502, 503, 781, 782, 783, 784, 785, 786, 787, 788, 789, 790, 791, 792, 793, 794, 795, 796, 797, 798, 799, 800, 801] (by decide +kernel) (by decide +kernel)
set_option maxRecDepth 20000 in
theorem gL_law_X6_shown : GoodIn wsL_law (wsV RL 73 RX6 yX6_shown wsX6_shown) := goodIn_app (goodIn_of _ (by decide +kernel)) ggL_law_X6_shown
set_option maxRecDepth 20000 in
theorem ggL_law_X5_all : GoodIn wsL_law wsX5_all := goodIn_r _ [507, 27, 13, 23, 28, 102, 103, 2, 104, 105, 106, 107, 302, 303, 304, 26, 305, 53, 54, 57, 306, 307, 308, 21, 309, 47, 310, 112, 113, 114, 58, 59, 60, 61, 311, 267, 268, 269, 312, 313, 314, 315, 55, 316, 317, 318, 319, 56, 320, 321, 322, 323, 324, 325, 326, 327, 328, 329, 330, 331, 332, 137, 138, 139, 333, 334, 335, 508, 509, 510, 511, 145, 146, 147, 148, 149, 150, 151, 119, 120, 121, 122, 512, 142, 143, 144, 233, 234, 235, 236, 127, 513, 514, 515, 516, 517, 518, 519, 520, 141, 772, 773, 774, 775, 776, 777, 778, 779, 780, 807, 808, 809, 810, 811, 806] (by decide +kernel) (by decide +kernel)
set_option maxRecDepth 20000 in
theorem gL_law_X5_all : GoodIn wsL_law (wsV RL 74 RX5 yX5_all wsX5_all) := goodIn_app (goodIn_of _ (by decide +kernel)) ggL_law_X5_all
set_option maxRecDepth 20000 in
theorem ggL_law_X6_all : GoodIn wsL_law wsX6_all := goodIn_r _ [524, 160, 157, 158, 5, 159, 161, 162, 163, 525, 526, 527, 528, 529, 530, 531, 532, 349, 345, 346, 347, 348, 91, 192, 193, 194, 195, 87, 164, 165, 166, 167, 350, 351, 352, 353, 92, 533, 534, 535, 536, 537, 538, 539, 540, 541, 542, 543, 544, 188, 189, 190, 191, 781, 782, 783, 784, 785, 786, 787, 788, 789, 790, 791, 792, 793, 794, 795, 796, 797, 798, 799, 800, 801] (by decide +kernel) (by decide +kernel)
set_option maxRecDepth 20000 in
theorem gL_law_X6_all : GoodIn wsL_law (wsV RL 77 RX6 yX6_all wsX6_all) := goodIn_app (goodIn_of _ (by decide +kernel)) ggL_law_X6_all
set_option maxRecDepth 20000 in
theorem ggL_law_X5_label : GoodIn wsL_law wsX5_label := goodIn_r _ [548, 27, 13, 102, 103, 2, 104, 105, 106, 107, 108, 109, 110, 302, 303, 304, 26, 305, 53, 54, 57, 306, 307, 308, 21, 309, 47, 310, 112, 113, 114, 58, 59, 60, 61, 311, 267, 268, 269, 312, 313, 314, 315, 55, 316, 317, 318, 319, 56, 320, 321, 322, 323, 324, 325, 326, 327, 328, 329, 330, 331, 332, 137, 138, 139, 333, 334, 335, 336, 772, 773, 774, 775, 776, 777, 778, 779, 780, 807, 808, 809, 810, 811, 806] (by decide +kernel) (by decide +kernel)
set_option maxRecDepth 20000 in
theorem gL_law_X5_label : GoodIn wsL_law (wsV RL 78 RX5 yX5_label wsX5_label) := goodIn_app (goodIn_of _ (by decide +kernel)) ggL_law_X5_label
set_option maxRecDepth 20000 in
theorem ggL_law_X6_label : GoodIn wsL_law wsX6_label := goodIn_r _ [552, 91, 157, 158, 5, 159, 160, 161, 162, 163, 164, 165, 166, 167, 345, 346, 347, 348, 349, 192, 193, 194, 195, 87, 350, 351, 352, 353, 92, 781, 782, 783, 784, 785, 786, 787, 788, 789, 790, 791, 792, 793, 794, 795, 796, 797, 798, 799, 800, 801] (by decide +kernel) (by decide +kernel)
set_option maxRecDepth 20000 in
theorem gL_law_X6_label : GoodIn wsL_law (wsV RL 81 RX6 yX6_label wsX6_label) := goodIn_app (goodIn_of _ (by decide +kernel)) ggL_law_X6_label
set_option maxRecDepth 20000 in
theorem ggL_law_X5_part : GoodIn wsL_law wsX5_part := goodIn_r _ [556, 27, 13, 102, 103, 2, 104, 105, 106, 107, 302, 303, 304, 26, 305, 53, 54, 57, 306, 307, 308, 21, 309, 47, 310, 112, 113, 114, 58, 59, 60, 61, 311, 267, 268, 269, 312, 313, 314, 315, 55, 316, 317, 318, 319, 56, 320, 321, 322, 323, 324, 325, 326, 327, 328, 329, 330, 331, 332, 137, 138, 139, 333, 334, 335, 557, 518, 519, 520, 772, 773, 774, 775, 776, 777, 778, 779, 780, 807, 808, 809, 810, 811, 806] (by decide +kernel) (by decide +kernel)
set_option maxRecDepth 20000 in
theorem gL_law_X5_part : GoodIn wsL_law (wsV RL 82 RX5 yX5_part wsX5_part) := goodIn_app (goodIn_of _ (by decide +kernel)) ggL_law_X5_part
set_option maxRecDepth 20000 in
theorem ggL_law_X6_part : GoodIn wsL_law wsX6_part := goodIn_r _ [561, 157, 158, 5, 159, 160, 161, 162, 163, 562, 563, 564, 565, 349, 566, 345, 346, 347, 348, 91, 192, 193, 194, 195, 87, 164, 165, 166, 167, 350, 351, 352, 353, 92, 567, 568, 569, 570, 537, 538, 539, 540, 571, 572, 573, 479, 480, 481, 781, 782, 783, 784, 785, 786, 787, 788, 789, 790, 791, 792, 793, 794, 795, 796, 797, 798, 799, 800, 801] (by decide +kernel) (by decide +kernel)
set_option maxRecDepth 20000 in
theorem gL_law_X6_part : GoodIn wsL_law (wsV RL 85 RX6 yX6_part wsX6_part) := goodIn_app (goodIn_of _ (by decide +kernel)) ggL_law_X6_part
set_option maxRecDepth 20000 in
theorem ggL_law_X5_near : GoodIn wsL_law wsX5_near := goodIn_r _ [577, 13, 102, 103, 2, 104, 105, 106, 107, 108, 109, 110, 578, 579, 580, 21, 581, 47, 582, 583, 138, 584, 585, 586, 587, 772, 773, 774, 775, 776, 777, 778, 779, 780, 806] (by decide +kernel) (by decide +kernel)
set_option maxRecDepth 20000 in
theorem gL_law_X5_near : GoodIn wsL_law (wsV RL 86 RX5 yX5_near wsX5_near) := goodIn_app (goodIn_of _ (by decide +kernel)) ggL_law_X5_near
set_option maxRecDepth 20000 in
theorem ggL_law_X6_near : GoodIn wsL_law wsX6_near := goodIn_r _ [591, 157, 158, 5, 159, 160, 161, 162, 163, 164, 165, 166, 167, 291, 292, 293, 294, 295, 296, 297, 192, 193, 194, 195, 87, 781, 782, 783, 784, 785, 786, 787, 788, 789, 790, 791, 792, 793, 794, 795, 796, 797, 798, 799, 800, 801] (by decide +kernel) (by decide +kernel)
set_option maxRecDepth 20000 in
theorem gL_law_X6_near : GoodIn wsL_law (wsV RL 89 RX6 yX6_near wsX6_near) := goodIn_app (goodIn_of _ (by decide +kernel)) ggL_law_X6_near
set_option maxRecDepth 20000 in
theorem ggL_law_X5_both : GoodIn wsL_law wsX5_both := goodIn_r _ [595, 13, 102, 103, 2, 104, 105, 106, 107, 596, 307, 308, 21, 309, 47, 597, 598, 599, 600, 145, 146, 147, 148, 149, 150, 151, 141, 142, 143, 144, 601, 602, 603, 604, 282, 283, 284, 285, 127, 119, 120, 121, 122, 772, 773, 774, 775, 776, 777, 778, 779, 780, 806] (by decide +kernel) (by decide +kernel)
set_option maxRecDepth 20000 in
theorem gL_law_X5_both : GoodIn wsL_law (wsV RL 90 RX5 yX5_both wsX5_both) := goodIn_app (goodIn_of _ (by decide +kernel)) ggL_law_X5_both
set_option maxRecDepth 20000 in
theorem ggL_law_X6_both : GoodIn wsL_law wsX6_both := goodIn_r _ [608, 160, 157, 158, 5, 159, 161, 162, 163, 609, 610, 611, 612, 192, 193, 194, 195, 87, 164, 165, 166, 167, 781, 782, 783, 784, 785, 786, 787, 788, 789, 790, 791, 792, 793, 794, 795, 796, 797, 798, 799, 800, 801] (by decide +kernel) (by decide +kernel)
set_option maxRecDepth 20000 in
theorem gL_law_X6_both : GoodIn wsL_law (wsV RL 93 RX6 yX6_both wsX6_both) := goodIn_app (goodIn_of _ (by decide +kernel)) ggL_law_X6_both
set_option maxRecDepth 20000 in
theorem ggL_law_X5_sheet : GoodIn wsL_law wsX5_sheet := goodIn_r _ [616, 15, 358, 359, 2, 360, 105, 106, 107, 361, 362, 363, 364, 33, 617, 618, 619, 35, 620, 76, 77, 78, 75, 621, 59, 60, 61, 772, 773, 774, 775, 776, 777, 778, 779, 780, 818, 819, 820, 821] (by decide +kernel) (by decide +kernel)
set_option maxRecDepth 20000 in
theorem gL_law_X5_sheet : GoodIn wsL_law (wsV RL 94 RX5 yX5_sheet wsX5_sheet) := goodIn_app (goodIn_of _ (by decide +kernel)) ggL_law_X5_sheet
set_option maxRecDepth 20000 in
theorem ggL_law_X6_sheet : GoodIn wsL_law wsX6_sheet := goodIn_r _ [625, 389, 83, 84, 85, 376, 377, 5, 378, 160, 161, 162, 163, 379, 380, 381, 382, 383, 781, 782, 783, 784, 785, 786, 787, 788, 789, 790, 791, 792, 793, 794, 795, 796, 797, 798, 799, 800, 801] (by decide +kernel) (by decide +kernel)
set_option maxRecDepth 20000 in
theorem gL_law_X6_sheet : GoodIn wsL_law (wsV RL 97 RX6 yX6_sheet wsX6_sheet) := goodIn_app (goodIn_of _ (by decide +kernel)) ggL_law_X6_sheet
