set_option maxRecDepth 20000 in
theorem ggL_law_X5_shown : GoodIn wsL_law wsX5_shown := goodIn_r _ [489, 32, 13, 102, 103, 2, 104, 105, 106, 107, 452, 453, 454, 31, 455, 66, 68, 69, 70, 71, 456, 311, 312, 21, 313, 47, 457, 112, 113, 114, 458, 459, 460, 461, 338, 138, 339, 462, 433, 434, 435, 119, 120, 121, 122, 463, 464, 465, 466, 67, 490, 491, 492, 493, 776, 777, 778, 779, 780, 781, 782, 783, 784, 816, 817, 818, 819, 820, 821, 810] (by decide +kernel) (by decide +kernel)
set_option maxRecDepth 20000 in
theorem gL_law_X5_shown : GoodIn wsL_law (wsV RL 70 RX5 yX5_shown wsX5_shown) := goodIn_app (goodIn_of _ (by decide +kernel)) ggL_law_X5_shown
set_option maxRecDepth 20000 in
theorem ggL_law_X6_shown : GoodIn wsL_law wsX6_shown := goodIn_r _ [497, 498, 499, 161, 162, 5, 163, 164, 165, 166, 167, 500, 501, 502, 503, 475, 476, 477, 478, 479, 97, 392, 93, 94, 95, 96, 394, 395, 396, 397, 444, 445, 446, 447, 87, 196, 197, 198, 199, 168, 169, 170, 171, 480, 481, 482, 483, 484, 485, 398, 399, 400, 401, 504, 505, 506, 507, 785, 786, 787, 788, 789, 790, 791, 792, 793, 794, 795, 796, 797, 798, 799, 800, 801, 802, 803, 804, 805] (by decide +kernel) (by decide +kernel)
set_option maxRecDepth 20000 in
theorem gL_law_X6_shown : GoodIn wsL_law (wsV RL 73 RX6 yX6_shown wsX6_shown) := goodIn_app (goodIn_of _ (by decide +kernel)) ggL_law_X6_shown
set_option maxRecDepth 20000 in
theorem ggL_law_X5_all : GoodIn wsL_law wsX5_all := goodIn_r _ [511, 27, 13, 23, 28, 102, 103, 2, 104, 105, 106, 107, 306, 307, 308, 26, 309, 53, 54, 57, 310, 311, 312, 21, 313, 47, 314, 112, 113, 114, 58, 59, 60, 61, 315, 271, 272, 273, 316, 317, 318, 319, 55, 320, 321, 322, 323, 56, 324, 325, 326, 327, 328, 329, 330, 331, 332, 333, 334, 335, 336, 137, 138, 139, 337, 338, 339, 512, 513, 514, 515, 149, 150, 151, 152, 153, 154, 155, 119, 120, 121, 122, 516, 146, 147, 148, 237, 238, 239, 240, 127, 517, 518, 519, 520, 521, 522, 523, 524, 145, 776, 777, 778, 779, 780, 781, 782, 783, 784, 811, 812, 813, 814, 815, 810] (by decide +kernel) (by decide +kernel)
set_option maxRecDepth 20000 in
theorem gL_law_X5_all : GoodIn wsL_law (wsV RL 74 RX5 yX5_all wsX5_all) := goodIn_app (goodIn_of _ (by decide +kernel)) ggL_law_X5_all
set_option maxRecDepth 20000 in
theorem ggL_law_X6_all : GoodIn wsL_law wsX6_all := goodIn_r _ [528, 164, 161, 162, 5, 163, 165, 166, 167, 529, 530, 531, 532, 533, 534, 535, 536, 353, 349, 350, 351, 352, 91, 196, 197, 198, 199, 87, 168, 169, 170, 171, 354, 355, 356, 357, 92, 537, 538, 539, 540, 541, 542, 543, 544, 545, 546, 547, 548, 192, 193, 194, 195, 785, 786, 787, 788, 789, 790, 791, 792, 793, 794, 795, 796, 797, 798, 799, 800, 801, 802, 803, 804, 805] (by decide +kernel) (by decide +kernel)
set_option maxRecDepth 20000 in
theorem gL_law_X6_all : GoodIn wsL_law (wsV RL 77 RX6 yX6_all wsX6_all) := goodIn_app (goodIn_of _ (by decide +kernel)) ggL_law_X6_all
set_option maxRecDepth 20000 in
theorem ggL_law_X5_label : GoodIn wsL_law wsX5_label := goodIn_r _ [552, 27, 13, 102, 103, 2, 104, 105, 106, 107, 108, 109, 110, 306, 307, 308, 26, 309, 53, 54, 57, 310, 311, 312, 21, 313, 47, 314, 112, 113, 114, 58, 59, 60, 61, 315, 271, 272, 273, 316, 317, 318, 319, 55, 320, 321, 322, 323, 56, 324, 325, 326, 327, 328, 329, 330, 331, 332, 333, 334, 335, 336, 137, 138, 139, 337, 338, 339, 340, 776, 777, 778, 779, 780, 781, 782, 783, 784, 811, 812, 813, 814, 815, 810] (by decide +kernel) (by decide +kernel)
set_option maxRecDepth 20000 in
theorem gL_law_X5_label : GoodIn wsL_law (wsV RL 78 RX5 yX5_label wsX5_label) := goodIn_app (goodIn_of _ (by decide +kernel)) ggL_law_X5_label
set_option maxRecDepth 20000 in
theorem ggL_law_X6_label : GoodIn wsL_law wsX6_label := goodIn_r _ [556, 91, 161, 162, 5, 163, 164, 165, 166, 167, 168, 169, 170, 171, 349, 350, 351, 352, 353, 196, 197, 198, 199, 87, 354, 355, 356, 357, 92, 785, 786, 787, 788, 789, 790, 791, 792, 793, 794, 795, 796, 797, 798, 799, 800, 801, 802, 803, 804, 805] (by decide +kernel) (by decide +kernel)
set_option maxRecDepth 20000 in
theorem gL_law_X6_label : GoodIn wsL_law (wsV RL 81 RX6 yX6_label wsX6_label) := goodIn_app (goodIn_of _ (by decide +kernel)) ggL_law_X6_label
set_option maxRecDepth 20000 in
theorem ggL_law_X5_part : GoodIn wsL_law wsX5_part := goodIn_r _ [560, 27, 13, 102, 103, 2, 104, 105, 106, 107, 306, 307, 308, 26, 309, 53, 54, 57, 310, 311, 312, 21, 313, 47, 314, 112, 113, 114, 58, 59, 60, 61, 315, 271, 272, 273, 316, 317, 318, 319, 55, 320, 321, 322, 323, 56, 324, 325, 326, 327, 328, 329, 330, 331, 332, 333, 334, 335, 336, 137, 138, 139, 337, 338, 339, 561, 522, 523, 524, 776, 777, 778, 779, 780, 781, 782, 783, 784, 811, 812, 813, 814, 815, 810] (by decide +kernel) (by decide +kernel)
set_option maxRecDepth 20000 in
theorem gL_law_X5_part : GoodIn wsL_law (wsV RL 82 RX5 yX5_part wsX5_part) := goodIn_app (goodIn_of _ (by decide +kernel)) ggL_law_X5_part
set_option maxRecDepth 20000 in
theorem ggL_law_X6_part : GoodIn wsL_law wsX6_part := goodIn_r _ [565, 161, 162, 5, 163, 164, 165, 166, 167, 566, 567, 568, 569, 353, 570, 349, 350, 351, 352, 91, 196, 197, 198, 199, 87, 168, 169, 170, 171, 354, 355, 356, 357, 92, 571, 572, 573, 574, 541, 542, 543, 544, 575, 576, 577, 483, 484, 485, 785, 786, 787, 788, 789, 790, 791, 792, 793, 794, 795, 796, 797, 798, 799, 800, 801, 802, 803, 804, 805] (by decide +kernel) (by decide +kernel)
set_option maxRecDepth 20000 in
theorem gL_law_X6_part : GoodIn wsL_law (wsV RL 85 RX6 yX6_part wsX6_part) := goodIn_app (goodIn_of _ (by decide +kernel)) ggL_law_X6_part
set_option maxRecDepth 20000 in
theorem ggL_law_X5_near : GoodIn wsL_law wsX5_near := goodIn_r _ [581, 13, 102, 103, 2, 104, 105, 106, 107, 108, 109, 110, 582, 583, 584, 21, 585, 47, 586, 587, 138, 588, 589, 590, 591, 776, 777, 778, 779, 780, 781, 782, 783, 784, 810] (by decide +kernel) (by decide +kernel)
set_option maxRecDepth 20000 in
theorem gL_law_X5_near : GoodIn wsL_law (wsV RL 86 RX5 yX5_near wsX5_near) := goodIn_app (goodIn_of _ (by decide +kernel)) ggL_law_X5_near
set_option maxRecDepth 20000 in
theorem ggL_law_X6_near : GoodIn wsL_law wsX6_near := goodIn_r _ [595, 161, 162, 5, 163, 164, 165, 166, 167, 168, 169, 170, 171, 295, 296, 297, 298, 299, 300, 301, 196, 197, 198, 199, 87, 785, 786, 787, 788, 789, 790, 791, 792, 793, 794, 795, 796, 797, 798, 799, 800, 801, 802, 803, 804, 805] (by decide +kernel) (by decide +kernel)
set_option maxRecDepth 20000 in
theorem gL_law_X6_near : GoodIn wsL_law (wsV RL 89 RX6 yX6_near wsX6_near) := goodIn_app (goodIn_of _ (by decide +kernel)) ggL_law_X6_near
set_option maxRecDepth 20000 in
theorem ggL_law_X5_both : GoodIn wsL_law wsX5_both := goodIn_r _ [599, 13, 102, 103, 2, 104, 105, 106, 107, 600, 311, 312, 21, 313, 47, 601, 602, 603, 604, 149, 150, 151, 152, 153, 154, 155, 145, 146, 147, 148, 605, 606, 607, 608, 286, 287, 288, 289, 127, 119, 120, 121, 122, 776, 777, 778, 779, 780, 781, 782, 783, 784, 810] (by decide +kernel) (by decide +kernel)
set_option maxRecDepth 20000 in
theorem gL_law_X5_both : GoodIn wsL_law (wsV RL 90 RX5 yX5_both wsX5_both) := goodIn_app (goodIn_of _ (by decide +kernel)) ggL_law_X5_both
set_option maxRecDepth 20000 in
theorem ggL_law_X6_both : GoodIn wsL_law wsX6_both := goodIn_r _ [612, 164, 161, 162, 5, 163, 165, 166, 167, 613, 614, 615, 616, 196, 197, 198, 199, 87, 168, 169, 170, 171, 785, 786, 787, 788, 789, 790, 791, 792, 793, 794, 795, 796, 797, 798, 799, 800, 801, 802, 803, 804, 805] (by decide +kernel) (by decide +kernel)
set_option maxRecDepth 20000 in
theorem gL_law_X6_both : GoodIn wsL_law (wsV RL 93 RX6 yX6_both wsX6_both) := goodIn_app (goodIn_of _ (by decide +kernel)) ggL_law_X6_both
set_option maxRecDepth 20000 in
theorem ggL_law_X5_sheet : GoodIn wsL_law wsX5_sheet := goodIn_r _ [620, 15, 362, 363, 2, 364, 105, 106, 107, 365, 366, 367, 368, 33, 621, 622, 623, 35, 624, 76, 77, 78, 75, 625, 59, 60, 61, 776, 777, 778, 779, 780, 781, 782, 783, 784, 822, 823, 824, 825] (by decide +kernel) (by decide +kernel)
set_option maxRecDepth 20000 in
theorem gL_law_X5_sheet : GoodIn wsL_law (wsV RL 94 RX5 yX5_sheet wsX5_sheet) := goodIn_app (goodIn_of _ (by decide +kernel)) ggL_law_X5_sheet
set_option maxRecDepth 20000 in
theorem ggL_law_X6_sheet : GoodIn wsL_law wsX6_sheet := goodIn_r _ [629, 393, 83, 84, 85, 380, 381, 5, 382, 164, 165, 166, 167, 383, 384, 385, 386, 387, 785, 786, 787, 788, 789, 790, 791, 792, 793, 794, 795, 796, 797, 798, 799, 800, 801, 802, 803, 804, 805] (by decide +kernel) (by decide +kernel)
set_option maxRecDepth 20000 in
theorem gL_law_X6_sheet : GoodIn wsL_law (wsV RL 97 RX6 yX6_sheet wsX6_sheet) := goodIn_app (goodIn_of _ (by decide +kernel)) ggL_law_X6_sheet
